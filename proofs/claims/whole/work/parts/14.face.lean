/-- what holds of a number that names one of n, and of one that does not -/
def ndP (n : Nat) (k : Int32) (yes : Nat → Prop) (no : Prop) : Prop := (∀ i, i < n → k = nI (i + 1) → yes i) ∧ ((∀ i, i < n → ¬ k = nI (i + 1)) → no)
theorem nd_eq {n i j : Nat} {k : Int32} (hn : n ≤ 64) (hi : i < n) (hj : j < n) (h1 : k = nI (i + 1)) (h2 : k = nI (j + 1)) : i = j := by
  have := (nI_eq (a := i + 1) (b := j + 1) (by omega) (by omega)).mp (h1.symm.trans h2)
  omega
theorem ndP_y {n i : Nat} {k : Int32} {yes : Nat → Prop} {no : Prop} (hn : n ≤ 64) (hi : i < n) (hk : k = nI (i + 1)) (h : yes i) : ndP n k yes no := ⟨fun j hj e => by rw [← nd_eq hn hi hj hk e]; exact h, fun z => absurd hk (z i hi)⟩
theorem ndP_n {n : Nat} {k : Int32} {yes : Nat → Prop} {no : Prop} (hz : ∀ i, i < n → ¬ k = nI (i + 1)) (h : no) : ndP n k yes no := ⟨fun j hj e => absurd e (hz j hj), fun _ => h⟩
section KS
variable {p : Program} {l : Launch} {e : Env} {R : Room} {s : State} {m : MethodId} {args : Array Value} {below : List Frame} {meth : Method} {c : Code} {H : Heap} {locs : List Loc} {cells slots : Nat} {Q : State → Prop}
variable {cc : ByteArray} {pc : Nat} {ls : Array Slot} {rest : List Value} {D : va_G} {tys : List (ClassId × FieldType)} {H0 : Heap} {K : List (Nat × Nat)} {ad : Nat × Nat → Nat}
variable {Sg : Type} {G : Sg → Nat × Nat → va_E} {σ : Sg} {y : MethodName} {bytes : ByteArray} {maxL nL n index : Nat} {rm : Room} {own : String} {As : List Value} {Ts : List Cond}
/-- a call of a static method that answers an int -/
theorem kx_Si {ret : Option FieldType} {post : Int32 → Sg → Prop} (hexec : p.tables.exec = Jvm.exec) (hb : c.code = cc) (hml : c.maxLocals = nL) (hown : s.vm.findClass own = some m.cls) (htT : ∀ w ∈ Ts, w.before args s = true) (hT : ∀ w ∈ kB_l, w ∈ Ts)
    (hM : Met l y (km y bytes maxL ret) rm (va_Pc As (fun U => U.heap.size = H.size ∧ kB D tys K ad (G σ) U)) (va_Qi post (fun τ t => kB D tys K ad (G τ) t) (kA K ad H.size)) 0 0 (kA K ad H.size))
    (w1 : Cond.methodLink own index y ∈ kB_l) (w2 : Cond.static y ∈ kB_l) (w4 : Cond.initialized y.cls ∈ kB_l) (w5 : Cond.code y bytes maxL ret ∈ kB_l)
    (hd : y.cls ≠ "java/lang/invoke/MethodHandle" ∧ y.cls ≠ "java/lang/invoke/VarHandle" ∧ (parseMethodDescriptor y.desc).map (fun d => d.parameters.length) = some n) (hrm : rm.cells = 0 ∧ rm.slots = 0) (hR : rm.frames + 1 ≤ R.frames ∧ 8 + (maxL + 11) + rm.locals ≤ R.locals)
    (hK : va_K D kCl tys s) (hP : va_P D kCl (kW K ad (G σ)) H) (hD : va_D (kA K ad H0.size) (kW K ad (G σ))) (hS : va_S (kA K ad H0.size) H0 H locs)
    (hn : As.length = n) (hsize : ls.size = nL) (hW : (rest.map fun v => v.category).sum ≤ 8) (hdg : decode cc pc = .ok (.invokestatic index, 3)) {st0 : List Value} (hstack : st0 = As.reverse ++ rest) (hf : cells ≤ R.cells ∧ slots ≤ R.slots)
    (kk : ∀ (r : Int32) (τ : Sg) (H1 : Heap) (locs1 : List Loc), post r τ → va_P D kCl (kW K ad (G τ)) H1 → va_D (kA K ad H0.size) (kW K ad (G τ)) → va_S (kA K ad H0.size) H0 H1 locs1 → W p l e R s m args below meth c H1 locs1 cells slots Q (F0 m (pc + 3) ls (.int r :: rest))) : W p l e R s m args below meth c H locs cells slots Q (F0 m pc ls st0) := by
  subst hstack
  have hsub : ∀ q : Nat, kA K ad H.size q → kA K ad H0.size q := fun q h => h.elim Or.inl (fun h => Or.inr (Nat.le_trans hS.1 h))
  refine va_calli (va_runS (As := As) (rest := rest) ⟨hexec, hb, hml, hown, htT⟩ hM (va_cwS n htT (km_goodS hT w1 w2 w4 w5) rfl hrm.1 hrm.2 hd hR) ⟨kB_blind _ _, fun U hU hWm => ⟨rfl, by rw [hU], by rw [hU]; exact hP, va_K.moved hWm.alike hK, hD.weaken (fun _ _ _ _ => trivial)⟩⟩ rfl hn hsize rfl (lv_room hW) hdg hf) hS (fun q _ h => hsub q h) hsub (fun r τ t H1 locs1 ht hvm hw hB hz1 hk1 hS1 => ?_)
  obtain ⟨hP1, -, hD1⟩ := hB
  rw [ht] at hP1
  exact kk r τ H1 locs1 hw hP1 (kD_any _ hD1) hS1
end KS
/-- the bits that stand in x, counted as the library counts them -/
def ush (x k : Int32) : Int32 := (x.toUInt32 >>> (k.toUInt32 &&& Int32.toUInt32 31)).toInt32
def bcF (x : Int32) : Int32 :=
  let a := x - (ush x 1 &&& 1431655765)
  let b := (a &&& 858993459) + (ush a 2 &&& 858993459)
  let c := (b + ush b 4) &&& 252645135
  let d := c + ush c 8
  let e := d + ush d 16
  e &&& 63
set_option maxHeartbeats 4000000 in
set_option maxRecDepth 100000 in
theorem ct_I_bitCount (l : Launch) (D : va_G) {n : Nat} (hn : 1 ≤ n ∧ n ≤ 64) (ad : Nat × Nat → Nat) (cN cB cL : ClassId) (σ : CS) (x : Int32) (sz : Nat) : Met l ky_I_bitCount (km ky_I_bitCount kc_I_bitCount 1 (some .int)) ({ frames := 0, cells := 0, slots := 0, locals := 0 }) (cPre D n ad cN cB cL σ [.int x] sz) (cQi D n ad cN cB cL sz (fun r τ => r = bcF x ∧ σ = τ)) 0 0 (kA (kC n) ad sz) := by
  refine Met.ofW (cc := kc_I_bitCount) (maxL := 1) (ret := (some .int)) (by decide) rfl ?_
  intro p e s m args below meth c s₁ B hml hv
  obtain ⟨rfl, hsz, hP, hK, hD0⟩ := hv
  have hx := B.exec
  have hb := B.bytes
  have hr := B.returns
  have hts := atoms_spec (ws := km ky_I_bitCount kc_I_bitCount 1 (some .int)) B.pre
  have hT : ∀ w ∈ kB_l, w ∈ km ky_I_bitCount kc_I_bitCount 1 (some .int) := fun w h => List.mem_cons_of_mem _ h
  have hw := fun w h => hts w (hT w h)
  have hown : s.vm.findClass kR_I = some m.cls := findClass_of_methodNamed B.named
  have hlocks := B.notSynchronized
  subst hsz
  have hD : va_D (kA (kC n) ad s.heap.size) (kW (kC n) ad (gC n ad cN cB cL σ)) := kD_any _ hD0
  have hS : va_S (kA (kC n) ad s.heap.size) s.heap s.heap [] := va_S.rf
  have hl := lv_entry ([.int x]) (n := 1) (Nat.le_of_ble_eq_true rfl)
  rw [lg_entry_eq]
  generalize (lg_sl ([.int x]) ++ List.replicate (1 - (lg_sl ([.int x])).length) Slot.unset).toArray = ls at hl ⊢
  have hl : lv_has ls 1 [(0, .int x)] := hl
  refine lv_iload_n hx hb kd_I_bitCount_0 rfl (lv_at hl 0 rfl) ?_
  refine lv_iload_n hx hb kd_I_bitCount_1 rfl (lv_at hl 0 rfl) ?_
  refine lv_iconst (v := 1) hx hb kd_I_bitCount_2 (by decide) ?_
  refine lv_iushr (v := (x.toUInt32 >>> ((1 : Int32).toUInt32 &&& Int32.toUInt32 31)).toInt32) hx hb kd_I_bitCount_3 rfl ?_
  refine lv_ldcw (v := 1431655765) hx hb hown (hw _ kw_199) kd_I_bitCount_4 ?_
  refine lv_iand hx hb kd_I_bitCount_7 ?_
  refine lv_isub hx hb kd_I_bitCount_8 ?_
  refine lv_topi (fun y1 ey1 => ?_)
  refine lv_istore_n (lv' := [(0, .int y1)]) hx hb kd_I_bitCount_9 rfl hl (by decide) rfl (fun ls hl => ?_)
  refine lv_iload_n hx hb kd_I_bitCount_10 rfl (lv_at hl 0 rfl) ?_
  refine lv_ldcw (v := 858993459) hx hb hown (hw _ kw_200) kd_I_bitCount_11 ?_
  refine lv_iand hx hb kd_I_bitCount_14 ?_
  refine lv_iload_n hx hb kd_I_bitCount_15 rfl (lv_at hl 0 rfl) ?_
  refine lv_iconst (v := 2) hx hb kd_I_bitCount_16 (by decide) ?_
  refine lv_iushr (v := (y1.toUInt32 >>> ((2 : Int32).toUInt32 &&& Int32.toUInt32 31)).toInt32) hx hb kd_I_bitCount_17 rfl ?_
  refine lv_ldcw (v := 858993459) hx hb hown (hw _ kw_200) kd_I_bitCount_18 ?_
  refine lv_iand hx hb kd_I_bitCount_21 ?_
  refine lv_iadd hx hb kd_I_bitCount_22 ?_
  refine lv_topi (fun y2 ey2 => ?_)
  refine lv_istore_n (lv' := [(0, .int y2)]) hx hb kd_I_bitCount_23 rfl hl (by decide) rfl (fun ls hl => ?_)
  refine lv_iload_n hx hb kd_I_bitCount_24 rfl (lv_at hl 0 rfl) ?_
  refine lv_iload_n hx hb kd_I_bitCount_25 rfl (lv_at hl 0 rfl) ?_
  refine lv_iconst (v := 4) hx hb kd_I_bitCount_26 (by decide) ?_
  refine lv_iushr (v := (y2.toUInt32 >>> ((4 : Int32).toUInt32 &&& Int32.toUInt32 31)).toInt32) hx hb kd_I_bitCount_27 rfl ?_
  refine lv_iadd hx hb kd_I_bitCount_28 ?_
  refine lv_ldcw (v := 252645135) hx hb hown (hw _ kw_201) kd_I_bitCount_29 ?_
  refine lv_iand hx hb kd_I_bitCount_32 ?_
  refine lv_topi (fun y3 ey3 => ?_)
  refine lv_istore_n (lv' := [(0, .int y3)]) hx hb kd_I_bitCount_33 rfl hl (by decide) rfl (fun ls hl => ?_)
  refine lv_iload_n hx hb kd_I_bitCount_34 rfl (lv_at hl 0 rfl) ?_
  refine lv_iload_n hx hb kd_I_bitCount_35 rfl (lv_at hl 0 rfl) ?_
  refine lv_bipush (v := 8) hx hb kd_I_bitCount_36 (by decide) ?_
  refine lv_iushr (v := (y3.toUInt32 >>> ((8 : Int32).toUInt32 &&& Int32.toUInt32 31)).toInt32) hx hb kd_I_bitCount_38 rfl ?_
  refine lv_iadd hx hb kd_I_bitCount_39 ?_
  refine lv_topi (fun y4 ey4 => ?_)
  refine lv_istore_n (lv' := [(0, .int y4)]) hx hb kd_I_bitCount_40 rfl hl (by decide) rfl (fun ls hl => ?_)
  refine lv_iload_n hx hb kd_I_bitCount_41 rfl (lv_at hl 0 rfl) ?_
  refine lv_iload_n hx hb kd_I_bitCount_42 rfl (lv_at hl 0 rfl) ?_
  refine lv_bipush (v := 16) hx hb kd_I_bitCount_43 (by decide) ?_
  refine lv_iushr (v := (y4.toUInt32 >>> ((16 : Int32).toUInt32 &&& Int32.toUInt32 31)).toInt32) hx hb kd_I_bitCount_45 rfl ?_
  refine lv_iadd hx hb kd_I_bitCount_46 ?_
  refine lv_topi (fun y5 ey5 => ?_)
  refine lv_istore_n (lv' := [(0, .int y5)]) hx hb kd_I_bitCount_47 rfl hl (by decide) rfl (fun ls hl => ?_)
  refine lv_iload_n hx hb kd_I_bitCount_48 rfl (lv_at hl 0 rfl) ?_
  refine lv_bipush (v := 63) hx hb kd_I_bitCount_49 (by decide) ?_
  refine lv_iand hx hb kd_I_bitCount_51 ?_
  exact W.iret (v := y5 &&& 63) hx hb hr (fun t ht hW => ⟨⟨y5 &&& 63, σ, rfl, ⟨by subst ey1; subst ey2; subst ey3; subst ey4; subst ey5; rfl, rfl⟩, by rw [ht]; exact hP, va_K.moved hW.alike hK, hD.weaken (fun _ _ _ _ => trivial)⟩, hS.F ht⟩) hS.2.2 kd_I_bitCount_52
def rqF (σ : CS) (i : Nat) (on : Int32) : Int32 × CS :=
  if (σ.1 i).2.2.2.2.2.2.1 = 0 then
    (let s1 : CS := setN σ i ((σ.1 i).1, (σ.1 i).2.1, (σ.1 i).2.2.1, (σ.1 i).2.2.2.1, on, (σ.1 i).2.2.2.2.2.1, (σ.1 i).2.2.2.2.2.2.1, (σ.1 i).2.2.2.2.2.2.2)
     if wnt (s1.1 i) then (if cwk (s1.1 i).1 then (((wkU s1 i).1 i).1, wkU s1 i) else ((s1.1 i).1, s1)) else ((s1.1 i).1, s1))
  else (-3, σ)
set_option maxHeartbeats 4000000 in
set_option maxRecDepth 100000 in
theorem ct_S_request (l : Launch) (D : va_G) {n : Nat} (hn : 1 ≤ n ∧ n ≤ 64) (ad : Nat × Nat → Nat) (cN cB cL : ClassId) (σ : CS) (k on : Int32) (hon : on = 0 ∨ on = 1) (sz : Nat) : Met l ky_S_request (km ky_S_request kc_S_request 4 (some .int)) ({ frames := 3, cells := 0, slots := 0, locals := 63 }) (cPre D n ad cN cB cL σ [.ref (ad (0, 0)), .int k, .int on] sz) (cQi D n ad cN cB cL sz (fun r τ => ndP n k (fun i => (r, τ) = rqF σ i on) ((r, τ) = (-1, σ)))) 0 0 (kA (kC n) ad sz) := by
  refine Met.ofW (cc := kc_S_request) (maxL := 4) (ret := (some .int)) (by decide) rfl ?_
  intro p e s m args below meth c s₁ B hml hv
  obtain ⟨rfl, hsz, hP, hK, hD0⟩ := hv
  have hx := B.exec
  have hb := B.bytes
  have hr := B.returns
  have hts := atoms_spec (ws := km ky_S_request kc_S_request 4 (some .int)) B.pre
  have hT : ∀ w ∈ kB_l, w ∈ km ky_S_request kc_S_request 4 (some .int) := fun w h => List.mem_cons_of_mem _ h
  have hw := fun w h => hts w (hT w h)
  have hown : s.vm.findClass kR_S = some m.cls := findClass_of_methodNamed B.named
  have hlocks := B.notSynchronized
  subst hsz
  have hD : va_D (kA (kC n) ad s.heap.size) (kW (kC n) ad (gC n ad cN cB cL σ)) := kD_any _ hD0
  have hS : va_S (kA (kC n) ad s.heap.size) s.heap s.heap [] := va_S.rf
  have hl := lv_entry ([.ref (ad (0, 0)), .int k, .int on]) (n := 4) (Nat.le_of_ble_eq_true rfl)
  rw [lg_entry_eq]
  generalize (lg_sl ([.ref (ad (0, 0)), .int k, .int on]) ++ List.replicate (4 - (lg_sl ([.ref (ad (0, 0)), .int k, .int on])).length) Slot.unset).toArray = ls at hl ⊢
  have hl : lv_has ls 4 [(0, .ref (ad (0, 0))), (1, .int k), (2, .int on)] := hl
  refine lv_aload_n hx hb kd_S_request_0 rfl (lv_at hl 0 rfl) ?_
  refine lv_iload_n hx hb kd_S_request_1 rfl (lv_at hl 1 rfl) ?_
  refine kx_Vi (G := gC n ad cN cB cL) (σ := σ) (κ := (0, 0)) (ci := 2) (fs := thisL ad σ) (As := [.int k]) (rest := []) (n := 1) hx hb hml hown hts hT (ct_S_isNode l D hn ad cN cB cL σ k s.heap.size) kw_107 kw_109 ks_0 kw_1 kw_110 (by decide +kernel) ⟨rfl, rfl⟩ ⟨Nat.le_of_ble_eq_true rfl, Nat.le_of_ble_eq_true rfl⟩ hK hP hD hS kC_0 rfl rfl rfl hl.1 (Nat.le_of_ble_eq_true rfl) kd_S_request_2 rfl ⟨Nat.zero_le _, Nat.zero_le _⟩ (fun r_1 τ2 H locs hq3 hP hD hS => ?_)
  obtain ⟨⟨rfl, i, hi, hk⟩ | ⟨rfl, hno⟩, rfl⟩ := hq3
  · refine lv_if_ne (tgt := 10) hx hb kd_S_request_5 (by decide) (fun _ => ?_) (fun c0 => absurd c0 (by decide))
    refine lv_aload_n hx hb kd_S_request_10 rfl (lv_at hl 0 rfl) ?_
    refine kx_get (ci := 2) (fs := thisL ad σ) (v := .ref (ad (1, 0))) hx hb hw ki_S hown hK hP kC_0 rfl rfl 0 (by decide) kw_90 rfl rfl kd_S_request_11 ?_
    refine lv_iload_n hx hb kd_S_request_14 rfl (lv_at hl 1 rfl) ?_
    refine lv_iconst (v := 1) hx hb kd_S_request_15 (by decide) ?_
    refine lv_isub hx hb kd_S_request_16 ?_
    refine kx_aald (i := i) hx hb hK hP kC_1 0 rfl rfl (by rw [hk]; exact nI_pred i) hi (by omega) rfl kd_S_request_17 ?_
    refine lv_astore_n (lv' := [(3, .ref (ad (3, i))), (0, .ref (ad (0, 0))), (1, .int k), (2, .int on)]) hx hb kd_S_request_18 rfl hl (by decide) rfl (fun ls hl => ?_)
    refine lv_aload_n hx hb kd_S_request_19 rfl (lv_at hl 0 rfl) ?_
    refine kx_get (ci := 1) (fs := nodeL ad i (σ.1 i)) (v := .int ((σ.1 i).2.2.2.2.2.2.1)) hx hb hw ki_N hown hK hP (kC_3 hi) rfl rfl 8 (by decide) kw_67 rfl rfl kd_S_request_20 ?_
    refine lv_if_eq (tgt := 29) hx hb kd_S_request_23 (by decide) (fun c_4 => ?_) (fun c_4 => ?_)
    · refine lv_aload_n hx hb kd_S_request_29 rfl (lv_at hl 0 rfl) ?_
      refine lv_iload_n hx hb kd_S_request_30 rfl (lv_at hl 3 rfl) ?_
      refine kx_put (ci := 1) (fs := nodeL ad i (σ.1 i)) (v := .int on) (g2 := gC n ad cN cB cL (setN σ i ((σ.1 i).1, (σ.1 i).2.1, (σ.1 i).2.2.1, (σ.1 i).2.2.2.1, on, (σ.1 i).2.2.2.2.2.1, (σ.1 i).2.2.2.2.2.2.1, (σ.1 i).2.2.2.2.2.2.2))) hx hb hw ki_N kt_N ko_N kn_N hown hK hP hD hS (kC_3 hi) rfl rfl 6 (by decide) kw_64 rfl rfl (nar_b hon) (fit_b hon) (Nat.le_of_ble_eq_true rfl) (gC_N rfl) kd_S_request_31 (fun H locs hP hD hS => ?_)
      generalize hτ5 : setN σ i ((σ.1 i).1, (σ.1 i).2.1, (σ.1 i).2.2.1, (σ.1 i).2.2.2.1, on, (σ.1 i).2.2.2.2.2.1, (σ.1 i).2.2.2.2.2.2.1, (σ.1 i).2.2.2.2.2.2.2) = τ5 at hP hD
      refine lv_aload_n hx hb kd_S_request_34 rfl (lv_at hl 0 rfl) ?_
      refine kx_Vi (G := gC n ad cN cB cL) (σ := τ5) (κ := (3, i)) (ci := 1) (fs := nodeL ad i (τ5.1 i)) (As := []) (rest := []) (n := 0) hx hb hml hown hts hT (ct_N_wants l D hn ad cN cB cL τ5 hi H.size) kw_111 kw_112 kw_113 kw_4 kw_114 (by decide +kernel) ⟨rfl, rfl⟩ ⟨Nat.le_of_ble_eq_true rfl, Nat.le_of_ble_eq_true rfl⟩ hK hP hD hS (kC_3 hi) rfl rfl rfl hl.1 (Nat.le_of_ble_eq_true rfl) kd_S_request_35 rfl ⟨Nat.zero_le _, Nat.zero_le _⟩ (fun r_6 τ7 H locs hq8 hP hD hS => ?_)
      obtain ⟨⟨rfl, q_9⟩ | ⟨rfl, q_9⟩, rfl⟩ := hq8
      · refine lv_if_eq (tgt := 53) hx hb kd_S_request_38 (by decide) (fun c0 => absurd c0 (by decide)) (fun _ => ?_)
        refine lv_aload_n hx hb kd_S_request_41 rfl (lv_at hl 0 rfl) ?_
        refine kx_Vi (G := gC n ad cN cB cL) (σ := τ5) (κ := (3, i)) (ci := 1) (fs := nodeL ad i (τ5.1 i)) (As := []) (rest := []) (n := 0) hx hb hml hown hts hT (ct_N_canWake l D hn ad cN cB cL τ5 hi H.size) kw_115 kw_116 kw_117 kw_4 kw_118 (by decide +kernel) ⟨rfl, rfl⟩ ⟨Nat.le_of_ble_eq_true rfl, Nat.le_of_ble_eq_true rfl⟩ hK hP hD hS (kC_3 hi) rfl rfl rfl hl.1 (Nat.le_of_ble_eq_true rfl) kd_S_request_42 rfl ⟨Nat.zero_le _, Nat.zero_le _⟩ (fun r_10 τ11 H locs hq12 hP hD hS => ?_)
        obtain ⟨⟨rfl, q_13⟩ | ⟨rfl, q_13⟩, rfl⟩ := hq12
        · refine lv_if_eq (tgt := 53) hx hb kd_S_request_45 (by decide) (fun c0 => absurd c0 (by decide)) (fun _ => ?_)
          refine lv_aload_n hx hb kd_S_request_48 rfl (lv_at hl 1 rfl) ?_
          refine lv_aload_n hx hb kd_S_request_49 rfl (lv_at hl 0 rfl) ?_
          refine kx_Vv (G := gC n ad cN cB cL) (σ := τ5) (κ := (0, 0)) (ci := 2) (fs := thisL ad τ5) (As := [.ref (ad (3, i))]) (rest := []) (n := 1) hx hb hml hown hts hT (ct_S_wakeUp l D hn ad cN cB cL τ5 hi H.size) kw_119 kw_121 ks_1 kw_1 kw_122 (by decide +kernel) ⟨rfl, rfl⟩ ⟨Nat.le_of_ble_eq_true rfl, Nat.le_of_ble_eq_true rfl⟩ hK hP hD hS kC_0 rfl rfl rfl hl.1 (Nat.le_of_ble_eq_true rfl) kd_S_request_50 rfl ⟨Nat.zero_le _, Nat.zero_le _⟩ (fun τ15 H locs hq16 hP hD hS => ?_)
          have hτ15 := hq16
          refine lv_aload_n hx hb kd_S_request_53 rfl (lv_at hl 0 rfl) ?_
          refine kx_get (ci := 1) (fs := nodeL ad i (τ15.1 i)) (v := .int ((τ15.1 i).1)) hx hb hw ki_N hown hK hP (kC_3 hi) rfl rfl 2 (by decide) kw_58 rfl rfl kd_S_request_54 ?_
          exact W.iret (v := (τ15.1 i).1) hx hb hr (fun t ht hW => ⟨⟨(τ15.1 i).1, τ15, rfl, ndP_y hn.2 hi hk (by subst hτ5; subst hτ15; unfold rqF; rw [if_pos c_4, if_pos q_9, if_pos q_13]), by rw [ht]; exact hP, va_K.moved hW.alike hK, hD.weaken (fun _ _ _ _ => trivial)⟩, hS.F ht⟩) hS.2.2 kd_S_request_57
        · refine lv_if_eq (tgt := 53) hx hb kd_S_request_45 (by decide) (fun _ => ?_) (fun c0 => absurd (by decide) c0)
          refine lv_aload_n hx hb kd_S_request_53 rfl (lv_at hl 0 rfl) ?_
          refine kx_get (ci := 1) (fs := nodeL ad i (τ5.1 i)) (v := .int ((τ5.1 i).1)) hx hb hw ki_N hown hK hP (kC_3 hi) rfl rfl 2 (by decide) kw_58 rfl rfl kd_S_request_54 ?_
          exact W.iret (v := (τ5.1 i).1) hx hb hr (fun t ht hW => ⟨⟨(τ5.1 i).1, τ5, rfl, ndP_y hn.2 hi hk (by subst hτ5; unfold rqF; rw [if_pos c_4, if_pos q_9, if_neg q_13]), by rw [ht]; exact hP, va_K.moved hW.alike hK, hD.weaken (fun _ _ _ _ => trivial)⟩, hS.F ht⟩) hS.2.2 kd_S_request_57
      · refine lv_if_eq (tgt := 53) hx hb kd_S_request_38 (by decide) (fun _ => ?_) (fun c0 => absurd (by decide) c0)
        refine lv_aload_n hx hb kd_S_request_53 rfl (lv_at hl 0 rfl) ?_
        refine kx_get (ci := 1) (fs := nodeL ad i (τ5.1 i)) (v := .int ((τ5.1 i).1)) hx hb hw ki_N hown hK hP (kC_3 hi) rfl rfl 2 (by decide) kw_58 rfl rfl kd_S_request_54 ?_
        exact W.iret (v := (τ5.1 i).1) hx hb hr (fun t ht hW => ⟨⟨(τ5.1 i).1, τ5, rfl, ndP_y hn.2 hi hk (by subst hτ5; unfold rqF; rw [if_pos c_4, if_neg q_9]), by rw [ht]; exact hP, va_K.moved hW.alike hK, hD.weaken (fun _ _ _ _ => trivial)⟩, hS.F ht⟩) hS.2.2 kd_S_request_57
    · refine lv_bipush (v := (-3)) hx hb kd_S_request_26 (by decide) ?_
      exact W.iret (v := (-3)) hx hb hr (fun t ht hW => ⟨⟨(-3), σ, rfl, ndP_y hn.2 hi hk (by unfold rqF; rw [if_neg c_4]), by rw [ht]; exact hP, va_K.moved hW.alike hK, hD.weaken (fun _ _ _ _ => trivial)⟩, hS.F ht⟩) hS.2.2 kd_S_request_28
  · refine lv_if_ne (tgt := 10) hx hb kd_S_request_5 (by decide) (fun c0 => absurd rfl c0) (fun _ => ?_)
    refine lv_iconst (v := (-1)) hx hb kd_S_request_8 (by decide) ?_
    exact W.iret (v := (-1)) hx hb hr (fun t ht hW => ⟨⟨(-1), σ, rfl, ndP_n hno rfl, by rw [ht]; exact hP, va_K.moved hW.alike hK, hD.weaken (fun _ _ _ _ => trivial)⟩, hS.F ht⟩) hS.2.2 kd_S_request_9
def alF (n : Nat) (σ : CS) (i : Nat) (t : Int64) : Int32 × CS :=
  if okT σ.2.2.1 t then
    (if (σ.1 i).2.2.2.2.2.2.1 = 0 then (if (σ.1 i).2.2.2.2.2.1 = 0 then (if ((goT n σ t).1 i).1 = 0 then (-3, goT n σ t) else (rwR n (goT n σ t) i, rwS n (goT n σ t) i)) else (-3, σ)) else (-3, σ))
  else (-2, σ)
set_option maxHeartbeats 4000000 in
set_option maxRecDepth 100000 in
theorem ct_S_alive (l : Launch) (D : va_G) {n : Nat} (hn : 1 ≤ n ∧ n ≤ 64) (ad : Nat × Nat → Nat) (cN cB cL : ClassId) (σ : CS) (k : Int32) (t : Int64) {a : Nat} (ha : σ.2.2.1 = lN a) (hA : a < 2 ^ 30) (sz : Nat) : Met l ky_S_alive (km ky_S_alive kc_S_alive 5 (some .int)) ({ frames := 7, cells := 0, slots := 0, locals := 158 }) (cPre D n ad cN cB cL σ [.ref (ad (0, 0)), .int k, .long t] sz) (cQi D n ad cN cB cL sz (fun r τ => ndP n k (fun i => (r, τ) = alF n σ i t) ((r, τ) = (-1, σ)))) 0 0 (kA (kC n) ad sz) := by
  refine Met.ofW (cc := kc_S_alive) (maxL := 5) (ret := (some .int)) (by decide) rfl ?_
  intro p e s m args below meth c s₁ B hml hv
  obtain ⟨rfl, hsz, hP, hK, hD0⟩ := hv
  have hx := B.exec
  have hb := B.bytes
  have hr := B.returns
  have hts := atoms_spec (ws := km ky_S_alive kc_S_alive 5 (some .int)) B.pre
  have hT : ∀ w ∈ kB_l, w ∈ km ky_S_alive kc_S_alive 5 (some .int) := fun w h => List.mem_cons_of_mem _ h
  have hw := fun w h => hts w (hT w h)
  have hown : s.vm.findClass kR_S = some m.cls := findClass_of_methodNamed B.named
  have hlocks := B.notSynchronized
  subst hsz
  have hD : va_D (kA (kC n) ad s.heap.size) (kW (kC n) ad (gC n ad cN cB cL σ)) := kD_any _ hD0
  have hS : va_S (kA (kC n) ad s.heap.size) s.heap s.heap [] := va_S.rf
  have hl := lv_entry ([.ref (ad (0, 0)), .int k, .long t]) (n := 5) (Nat.le_of_ble_eq_true rfl)
  rw [lg_entry_eq]
  generalize (lg_sl ([.ref (ad (0, 0)), .int k, .long t]) ++ List.replicate (5 - (lg_sl ([.ref (ad (0, 0)), .int k, .long t])).length) Slot.unset).toArray = ls at hl ⊢
  have hl : lv_has ls 5 [(0, .ref (ad (0, 0))), (1, .int k), (2, .long t)] := hl
  refine lv_aload_n hx hb kd_S_alive_0 rfl (lv_at hl 0 rfl) ?_
  refine lv_iload_n hx hb kd_S_alive_1 rfl (lv_at hl 1 rfl) ?_
  refine kx_Vi (G := gC n ad cN cB cL) (σ := σ) (κ := (0, 0)) (ci := 2) (fs := thisL ad σ) (As := [.int k]) (rest := []) (n := 1) hx hb hml hown hts hT (ct_S_isNode l D hn ad cN cB cL σ k s.heap.size) kw_107 kw_109 ks_0 kw_1 kw_110 (by decide +kernel) ⟨rfl, rfl⟩ ⟨Nat.le_of_ble_eq_true rfl, Nat.le_of_ble_eq_true rfl⟩ hK hP hD hS kC_0 rfl rfl rfl hl.1 (Nat.le_of_ble_eq_true rfl) kd_S_alive_2 rfl ⟨Nat.zero_le _, Nat.zero_le _⟩ (fun r_1 τ2 H locs hq3 hP hD hS => ?_)
  obtain ⟨⟨rfl, i, hi, hk⟩ | ⟨rfl, hno⟩, rfl⟩ := hq3
  · refine lv_if_ne (tgt := 10) hx hb kd_S_alive_5 (by decide) (fun _ => ?_) (fun c0 => absurd c0 (by decide))
    refine lv_aload_n hx hb kd_S_alive_10 rfl (lv_at hl 0 rfl) ?_
    refine lv_lload_n hx hb kd_S_alive_11 rfl (lv_at hl 2 rfl) ?_
    refine kx_Vi (G := gC n ad cN cB cL) (σ := σ) (κ := (0, 0)) (ci := 2) (fs := thisL ad σ) (As := [.long t]) (rest := []) (n := 1) hx hb hml hown hts hT (ct_S_isTime l D hn ad cN cB cL σ t H.size) kw_135 kw_137 ks_3 kw_1 kw_138 (by decide +kernel) ⟨rfl, rfl⟩ ⟨Nat.le_of_ble_eq_true rfl, Nat.le_of_ble_eq_true rfl⟩ hK hP hD hS kC_0 rfl rfl rfl hl.1 (Nat.le_of_ble_eq_true rfl) kd_S_alive_12 rfl ⟨Nat.zero_le _, Nat.zero_le _⟩ (fun r_4 τ5 H locs hq6 hP hD hS => ?_)
    obtain ⟨⟨rfl, q_7⟩ | ⟨rfl, q_7⟩, rfl⟩ := hq6
    · refine lv_if_ne (tgt := 21) hx hb kd_S_alive_15 (by decide) (fun _ => ?_) (fun c0 => absurd c0 (by decide))
      refine lv_aload_n hx hb kd_S_alive_21 rfl (lv_at hl 0 rfl) ?_
      refine kx_get (ci := 2) (fs := thisL ad σ) (v := .ref (ad (1, 0))) hx hb hw ki_S hown hK hP kC_0 rfl rfl 0 (by decide) kw_90 rfl rfl kd_S_alive_22 ?_
      refine lv_iload_n hx hb kd_S_alive_25 rfl (lv_at hl 1 rfl) ?_
      refine lv_iconst (v := 1) hx hb kd_S_alive_26 (by decide) ?_
      refine lv_isub hx hb kd_S_alive_27 ?_
      refine kx_aald (i := i) hx hb hK hP kC_1 0 rfl rfl (by rw [hk]; exact nI_pred i) hi (by omega) rfl kd_S_alive_28 ?_
      refine lv_astore (lv' := [(4, .ref (ad (3, i))), (0, .ref (ad (0, 0))), (1, .int k), (2, .long t)]) hx hb kd_S_alive_29 hl (by decide) rfl (fun ls hl => ?_)
      refine lv_aload hx hb kd_S_alive_31 (lv_at hl 0 rfl) ?_
      refine kx_get (ci := 1) (fs := nodeL ad i (σ.1 i)) (v := .int ((σ.1 i).2.2.2.2.2.2.1)) hx hb hw ki_N hown hK hP (kC_3 hi) rfl rfl 8 (by decide) kw_67 rfl rfl kd_S_alive_33 ?_
      refine lv_if_ne (tgt := 47) hx hb kd_S_alive_36 (by decide) (fun c_8 => ?_) (fun c_8 => ?_)
      · refine lv_bipush (v := (-3)) hx hb kd_S_alive_47 (by decide) ?_
        exact W.iret (v := (-3)) hx hb hr (fun t ht hW => ⟨⟨(-3), σ, rfl, ndP_y hn.2 hi hk (by unfold alF; rw [if_pos q_7, if_neg c_8]), by rw [ht]; exact hP, va_K.moved hW.alike hK, hD.weaken (fun _ _ _ _ => trivial)⟩, hS.F ht⟩) hS.2.2 kd_S_alive_49
      · refine lv_aload hx hb kd_S_alive_39 (lv_at hl 0 rfl) ?_
        refine kx_get (ci := 1) (fs := nodeL ad i (σ.1 i)) (v := .int ((σ.1 i).2.2.2.2.2.1)) hx hb hw ki_N hown hK hP (kC_3 hi) rfl rfl 7 (by decide) kw_66 rfl rfl kd_S_alive_41 ?_
        refine lv_if_eq (tgt := 50) hx hb kd_S_alive_44 (by decide) (fun c_9 => ?_) (fun c_9 => ?_)
        · refine lv_aload_n hx hb kd_S_alive_50 rfl (lv_at hl 1 rfl) ?_
          refine lv_lload_n hx hb kd_S_alive_51 rfl (lv_at hl 3 rfl) ?_
          refine kx_Vv (G := gC n ad cN cB cL) (σ := σ) (κ := (0, 0)) (ci := 2) (fs := thisL ad σ) (As := [.long t]) (rest := []) (n := 1) hx hb hml hown hts hT (ct_S_goOn l D hn ad cN cB cL σ t q_7 ha hA H.size) kw_140 kw_142 ks_4 kw_1 kw_143 (by decide +kernel) ⟨rfl, rfl⟩ ⟨Nat.le_of_ble_eq_true rfl, Nat.le_of_ble_eq_true rfl⟩ hK hP hD hS kC_0 rfl rfl rfl hl.1 (Nat.le_of_ble_eq_true rfl) kd_S_alive_52 rfl ⟨Nat.zero_le _, Nat.zero_le _⟩ (fun τ11 H locs hq12 hP hD hS => ?_)
          have hτ11 := hq12
          refine lv_aload hx hb kd_S_alive_55 (lv_at hl 0 rfl) ?_
          refine kx_get (ci := 1) (fs := nodeL ad i (τ11.1 i)) (v := .int ((τ11.1 i).1)) hx hb hw ki_N hown hK hP (kC_3 hi) rfl rfl 2 (by decide) kw_58 rfl rfl kd_S_alive_57 ?_
          refine lv_if_ne (tgt := 66) hx hb kd_S_alive_60 (by decide) (fun c_13 => ?_) (fun c_13 => ?_)
          · refine lv_aload_n hx hb kd_S_alive_66 rfl (lv_at hl 1 rfl) ?_
            refine lv_aload hx hb kd_S_alive_67 (lv_at hl 0 rfl) ?_
            refine kx_Vi (G := gC n ad cN cB cL) (σ := τ11) (κ := (0, 0)) (ci := 2) (fs := thisL ad τ11) (As := [.ref (ad (3, i))]) (rest := []) (n := 1) hx hb hml hown hts hT (ct_S_sendRow l D hn ad cN cB cL τ11 hi H.size) kw_167 kw_169 ks_9 kw_1 kw_170 (by decide +kernel) ⟨rfl, rfl⟩ ⟨Nat.le_of_ble_eq_true rfl, Nat.le_of_ble_eq_true rfl⟩ hK hP hD hS kC_0 rfl rfl rfl hl.1 (Nat.le_of_ble_eq_true rfl) kd_S_alive_69 rfl ⟨Nat.zero_le _, Nat.zero_le _⟩ (fun r_14 τ15 H locs hq16 hP hD hS => ?_)
            obtain ⟨hr_14, hτ15⟩ := hq16
            exact W.iret (v := r_14) hx hb hr (fun t ht hW => ⟨⟨r_14, τ15, rfl, ndP_y hn.2 hi hk (by rw [hr_14]; subst hτ11; subst hτ15; unfold alF; rw [if_pos q_7, if_pos c_8, if_pos c_9, if_neg c_13]), by rw [ht]; exact hP, va_K.moved hW.alike hK, hD.weaken (fun _ _ _ _ => trivial)⟩, hS.F ht⟩) hS.2.2 kd_S_alive_72
          · refine lv_bipush (v := (-3)) hx hb kd_S_alive_63 (by decide) ?_
            exact W.iret (v := (-3)) hx hb hr (fun t ht hW => ⟨⟨(-3), τ11, rfl, ndP_y hn.2 hi hk (by subst hτ11; unfold alF; rw [if_pos q_7, if_pos c_8, if_pos c_9, if_pos c_13]), by rw [ht]; exact hP, va_K.moved hW.alike hK, hD.weaken (fun _ _ _ _ => trivial)⟩, hS.F ht⟩) hS.2.2 kd_S_alive_65
        · refine lv_bipush (v := (-3)) hx hb kd_S_alive_47 (by decide) ?_
          exact W.iret (v := (-3)) hx hb hr (fun t ht hW => ⟨⟨(-3), σ, rfl, ndP_y hn.2 hi hk (by unfold alF; rw [if_pos q_7, if_pos c_8, if_neg c_9]), by rw [ht]; exact hP, va_K.moved hW.alike hK, hD.weaken (fun _ _ _ _ => trivial)⟩, hS.F ht⟩) hS.2.2 kd_S_alive_49
    · refine lv_if_ne (tgt := 21) hx hb kd_S_alive_15 (by decide) (fun c0 => absurd rfl c0) (fun _ => ?_)
      refine lv_bipush (v := (-2)) hx hb kd_S_alive_18 (by decide) ?_
      exact W.iret (v := (-2)) hx hb hr (fun t ht hW => ⟨⟨(-2), σ, rfl, ndP_y hn.2 hi hk (by unfold alF; rw [if_neg q_7]), by rw [ht]; exact hP, va_K.moved hW.alike hK, hD.weaken (fun _ _ _ _ => trivial)⟩, hS.F ht⟩) hS.2.2 kd_S_alive_20
  · refine lv_if_ne (tgt := 10) hx hb kd_S_alive_5 (by decide) (fun c0 => absurd rfl c0) (fun _ => ?_)
    refine lv_iconst (v := (-1)) hx hb kd_S_alive_8 (by decide) ?_
    exact W.iret (v := (-1)) hx hb hr (fun t ht hW => ⟨⟨(-1), σ, rfl, ndP_n hno rfl, by rw [ht]; exact hP, va_K.moved hW.alike hK, hD.weaken (fun _ _ _ _ => trivial)⟩, hS.F ht⟩) hS.2.2 kd_S_alive_9
def tiF (n : Nat) (σ : CS) (t : Int64) : Int32 × CS := if okT σ.2.2.1 t then ((goT n σ t).2.2.2 - σ.2.2.2, goT n σ t) else (-2, σ)
set_option maxHeartbeats 4000000 in
set_option maxRecDepth 100000 in
theorem ct_S_tick (l : Launch) (D : va_G) {n : Nat} (hn : 1 ≤ n ∧ n ≤ 64) (ad : Nat × Nat → Nat) (cN cB cL : ClassId) (σ : CS) (t : Int64) {a : Nat} (ha : σ.2.2.1 = lN a) (hA : a < 2 ^ 30) (sz : Nat) : Met l ky_S_tick (km ky_S_tick kc_S_tick 4 (some .int)) ({ frames := 7, cells := 0, slots := 0, locals := 158 }) (cPre D n ad cN cB cL σ [.ref (ad (0, 0)), .long t] sz) (cQi D n ad cN cB cL sz (fun r τ => (r, τ) = tiF n σ t)) 0 0 (kA (kC n) ad sz) := by
  refine Met.ofW (cc := kc_S_tick) (maxL := 4) (ret := (some .int)) (by decide) rfl ?_
  intro p e s m args below meth c s₁ B hml hv
  obtain ⟨rfl, hsz, hP, hK, hD0⟩ := hv
  have hx := B.exec
  have hb := B.bytes
  have hr := B.returns
  have hts := atoms_spec (ws := km ky_S_tick kc_S_tick 4 (some .int)) B.pre
  have hT : ∀ w ∈ kB_l, w ∈ km ky_S_tick kc_S_tick 4 (some .int) := fun w h => List.mem_cons_of_mem _ h
  have hw := fun w h => hts w (hT w h)
  have hown : s.vm.findClass kR_S = some m.cls := findClass_of_methodNamed B.named
  have hlocks := B.notSynchronized
  subst hsz
  have hD : va_D (kA (kC n) ad s.heap.size) (kW (kC n) ad (gC n ad cN cB cL σ)) := kD_any _ hD0
  have hS : va_S (kA (kC n) ad s.heap.size) s.heap s.heap [] := va_S.rf
  have hl := lv_entry ([.ref (ad (0, 0)), .long t]) (n := 4) (Nat.le_of_ble_eq_true rfl)
  rw [lg_entry_eq]
  generalize (lg_sl ([.ref (ad (0, 0)), .long t]) ++ List.replicate (4 - (lg_sl ([.ref (ad (0, 0)), .long t])).length) Slot.unset).toArray = ls at hl ⊢
  have hl : lv_has ls 4 [(0, .ref (ad (0, 0))), (1, .long t)] := hl
  refine lv_aload_n hx hb kd_S_tick_0 rfl (lv_at hl 0 rfl) ?_
  refine lv_lload_n hx hb kd_S_tick_1 rfl (lv_at hl 1 rfl) ?_
  refine kx_Vi (G := gC n ad cN cB cL) (σ := σ) (κ := (0, 0)) (ci := 2) (fs := thisL ad σ) (As := [.long t]) (rest := []) (n := 1) hx hb hml hown hts hT (ct_S_isTime l D hn ad cN cB cL σ t s.heap.size) kw_135 kw_137 ks_3 kw_1 kw_138 (by decide +kernel) ⟨rfl, rfl⟩ ⟨Nat.le_of_ble_eq_true rfl, Nat.le_of_ble_eq_true rfl⟩ hK hP hD hS kC_0 rfl rfl rfl hl.1 (Nat.le_of_ble_eq_true rfl) kd_S_tick_2 rfl ⟨Nat.zero_le _, Nat.zero_le _⟩ (fun r_1 τ2 H locs hq3 hP hD hS => ?_)
  obtain ⟨⟨rfl, q_4⟩ | ⟨rfl, q_4⟩, rfl⟩ := hq3
  · refine lv_if_ne (tgt := 11) hx hb kd_S_tick_5 (by decide) (fun _ => ?_) (fun c0 => absurd c0 (by decide))
    refine lv_aload_n hx hb kd_S_tick_11 rfl (lv_at hl 0 rfl) ?_
    refine kx_get (ci := 2) (fs := thisL ad σ) (v := .int σ.2.2.2) hx hb hw ki_S hown hK hP kC_0 rfl rfl 3 (by decide) kw_93 rfl rfl kd_S_tick_12 ?_
    refine lv_istore_n (lv' := [(3, .int σ.2.2.2), (0, .ref (ad (0, 0))), (1, .long t)]) hx hb kd_S_tick_15 rfl hl (by decide) rfl (fun ls hl => ?_)
    refine lv_aload_n hx hb kd_S_tick_16 rfl (lv_at hl 1 rfl) ?_
    refine lv_lload_n hx hb kd_S_tick_17 rfl (lv_at hl 2 rfl) ?_
    refine kx_Vv (G := gC n ad cN cB cL) (σ := σ) (κ := (0, 0)) (ci := 2) (fs := thisL ad σ) (As := [.long t]) (rest := []) (n := 1) hx hb hml hown hts hT (ct_S_goOn l D hn ad cN cB cL σ t q_4 ha hA H.size) kw_140 kw_142 ks_4 kw_1 kw_143 (by decide +kernel) ⟨rfl, rfl⟩ ⟨Nat.le_of_ble_eq_true rfl, Nat.le_of_ble_eq_true rfl⟩ hK hP hD hS kC_0 rfl rfl rfl hl.1 (Nat.le_of_ble_eq_true rfl) kd_S_tick_18 rfl ⟨Nat.zero_le _, Nat.zero_le _⟩ (fun τ6 H locs hq7 hP hD hS => ?_)
    have hτ6 := hq7
    refine lv_aload_n hx hb kd_S_tick_21 rfl (lv_at hl 1 rfl) ?_
    refine kx_get (ci := 2) (fs := thisL ad τ6) (v := .int τ6.2.2.2) hx hb hw ki_S hown hK hP kC_0 rfl rfl 3 (by decide) kw_93 rfl rfl kd_S_tick_22 ?_
    refine lv_iload_n hx hb kd_S_tick_25 rfl (lv_at hl 0 rfl) ?_
    refine lv_isub hx hb kd_S_tick_26 ?_
    exact W.iret (v := τ6.2.2.2 - σ.2.2.2) hx hb hr (fun t ht hW => ⟨⟨τ6.2.2.2 - σ.2.2.2, τ6, rfl, by subst hτ6; unfold tiF; rw [if_pos q_4], by rw [ht]; exact hP, va_K.moved hW.alike hK, hD.weaken (fun _ _ _ _ => trivial)⟩, hS.F ht⟩) hS.2.2 kd_S_tick_27
  · refine lv_if_ne (tgt := 11) hx hb kd_S_tick_5 (by decide) (fun c0 => absurd rfl c0) (fun _ => ?_)
    refine lv_bipush (v := (-2)) hx hb kd_S_tick_8 (by decide) ?_
    exact W.iret (v := (-2)) hx hb hr (fun t ht hW => ⟨⟨(-2), σ, rfl, by unfold tiF; rw [if_neg q_4], by rw [ht]; exact hP, va_K.moved hW.alike hK, hD.weaken (fun _ _ _ _ => trivial)⟩, hS.F ht⟩) hS.2.2 kd_S_tick_10
def stF (σ : CS) (i : Nat) : Int32 × CS := ((σ.1 i).1, σ)
def paF (σ : CS) (i : Nat) (on : Int32) : Int32 × CS := let s1 : CS := setN σ i ((σ.1 i).1, (σ.1 i).2.1, (σ.1 i).2.2.1, (σ.1 i).2.2.2.1, (σ.1 i).2.2.2.2.1, on, (σ.1 i).2.2.2.2.2.2.1, (σ.1 i).2.2.2.2.2.2.2); ((s1.1 i).1, s1)
set_option maxHeartbeats 4000000 in
set_option maxRecDepth 100000 in
theorem ct_S_state (l : Launch) (D : va_G) {n : Nat} (hn : 1 ≤ n ∧ n ≤ 64) (ad : Nat × Nat → Nat) (cN cB cL : ClassId) (σ : CS) (k : Int32) (sz : Nat) : Met l ky_S_state (km ky_S_state kc_S_state 2 (some .int)) ({ frames := 1, cells := 0, slots := 0, locals := 21 }) (cPre D n ad cN cB cL σ [.ref (ad (0, 0)), .int k] sz) (cQi D n ad cN cB cL sz (fun r τ => ndP n k (fun i => (r, τ) = stF σ i ) ((r, τ) = (-1, σ)))) 0 0 (kA (kC n) ad sz) := by
  refine Met.ofW (cc := kc_S_state) (maxL := 2) (ret := (some .int)) (by decide) rfl ?_
  intro p e s m args below meth c s₁ B hml hv
  obtain ⟨rfl, hsz, hP, hK, hD0⟩ := hv
  have hx := B.exec
  have hb := B.bytes
  have hr := B.returns
  have hts := atoms_spec (ws := km ky_S_state kc_S_state 2 (some .int)) B.pre
  have hT : ∀ w ∈ kB_l, w ∈ km ky_S_state kc_S_state 2 (some .int) := fun w h => List.mem_cons_of_mem _ h
  have hw := fun w h => hts w (hT w h)
  have hown : s.vm.findClass kR_S = some m.cls := findClass_of_methodNamed B.named
  have hlocks := B.notSynchronized
  subst hsz
  have hD : va_D (kA (kC n) ad s.heap.size) (kW (kC n) ad (gC n ad cN cB cL σ)) := kD_any _ hD0
  have hS : va_S (kA (kC n) ad s.heap.size) s.heap s.heap [] := va_S.rf
  have hl := lv_entry ([.ref (ad (0, 0)), .int k]) (n := 2) (Nat.le_of_ble_eq_true rfl)
  rw [lg_entry_eq]
  generalize (lg_sl ([.ref (ad (0, 0)), .int k]) ++ List.replicate (2 - (lg_sl ([.ref (ad (0, 0)), .int k])).length) Slot.unset).toArray = ls at hl ⊢
  have hl : lv_has ls 2 [(0, .ref (ad (0, 0))), (1, .int k)] := hl
  refine lv_aload_n hx hb kd_S_state_0 rfl (lv_at hl 0 rfl) ?_
  refine lv_iload_n hx hb kd_S_state_1 rfl (lv_at hl 1 rfl) ?_
  refine kx_Vi (G := gC n ad cN cB cL) (σ := σ) (κ := (0, 0)) (ci := 2) (fs := thisL ad σ) (As := [.int k]) (rest := []) (n := 1) hx hb hml hown hts hT (ct_S_isNode l D hn ad cN cB cL σ k s.heap.size) kw_107 kw_109 ks_0 kw_1 kw_110 (by decide +kernel) ⟨rfl, rfl⟩ ⟨Nat.le_of_ble_eq_true rfl, Nat.le_of_ble_eq_true rfl⟩ hK hP hD hS kC_0 rfl rfl rfl hl.1 (Nat.le_of_ble_eq_true rfl) kd_S_state_2 rfl ⟨Nat.zero_le _, Nat.zero_le _⟩ (fun r_1 τ2 H locs hq3 hP hD hS => ?_)
  obtain ⟨⟨rfl, i, hi, hk⟩ | ⟨rfl, hno⟩, rfl⟩ := hq3
  · refine lv_if_ne (tgt := 10) hx hb kd_S_state_5 (by decide) (fun _ => ?_) (fun c0 => absurd c0 (by decide))
    refine lv_aload_n hx hb kd_S_state_10 rfl (lv_at hl 0 rfl) ?_
    refine kx_get (ci := 2) (fs := thisL ad σ) (v := .ref (ad (1, 0))) hx hb hw ki_S hown hK hP kC_0 rfl rfl 0 (by decide) kw_90 rfl rfl kd_S_state_11 ?_
    refine lv_iload_n hx hb kd_S_state_14 rfl (lv_at hl 1 rfl) ?_
    refine lv_iconst (v := 1) hx hb kd_S_state_15 (by decide) ?_
    refine lv_isub hx hb kd_S_state_16 ?_
    refine kx_aald (i := i) hx hb hK hP kC_1 0 rfl rfl (by rw [hk]; exact nI_pred i) hi (by omega) rfl kd_S_state_17 ?_
    refine kx_get (ci := 1) (fs := nodeL ad i (σ.1 i)) (v := .int ((σ.1 i).1)) hx hb hw ki_N hown hK hP (kC_3 hi) rfl rfl 2 (by decide) kw_58 rfl rfl kd_S_state_18 ?_
    exact W.iret (v := (σ.1 i).1) hx hb hr (fun t ht hW => ⟨⟨(σ.1 i).1, σ, rfl, ndP_y hn.2 hi hk (by unfold stF; rfl), by rw [ht]; exact hP, va_K.moved hW.alike hK, hD.weaken (fun _ _ _ _ => trivial)⟩, hS.F ht⟩) hS.2.2 kd_S_state_21
  · refine lv_if_ne (tgt := 10) hx hb kd_S_state_5 (by decide) (fun c0 => absurd rfl c0) (fun _ => ?_)
    refine lv_iconst (v := (-1)) hx hb kd_S_state_8 (by decide) ?_
    exact W.iret (v := (-1)) hx hb hr (fun t ht hW => ⟨⟨(-1), σ, rfl, ndP_n hno rfl, by rw [ht]; exact hP, va_K.moved hW.alike hK, hD.weaken (fun _ _ _ _ => trivial)⟩, hS.F ht⟩) hS.2.2 kd_S_state_9
set_option maxHeartbeats 4000000 in
set_option maxRecDepth 100000 in
theorem ct_S_passive (l : Launch) (D : va_G) {n : Nat} (hn : 1 ≤ n ∧ n ≤ 64) (ad : Nat × Nat → Nat) (cN cB cL : ClassId) (σ : CS) (k on : Int32) (hon : on = 0 ∨ on = 1) (sz : Nat) : Met l ky_S_passive (km ky_S_passive kc_S_passive 4 (some .int)) ({ frames := 1, cells := 0, slots := 0, locals := 21 }) (cPre D n ad cN cB cL σ [.ref (ad (0, 0)), .int k, .int on] sz) (cQi D n ad cN cB cL sz (fun r τ => ndP n k (fun i => (r, τ) = paF σ i on) ((r, τ) = (-1, σ)))) 0 0 (kA (kC n) ad sz) := by
  refine Met.ofW (cc := kc_S_passive) (maxL := 4) (ret := (some .int)) (by decide) rfl ?_
  intro p e s m args below meth c s₁ B hml hv
  obtain ⟨rfl, hsz, hP, hK, hD0⟩ := hv
  have hx := B.exec
  have hb := B.bytes
  have hr := B.returns
  have hts := atoms_spec (ws := km ky_S_passive kc_S_passive 4 (some .int)) B.pre
  have hT : ∀ w ∈ kB_l, w ∈ km ky_S_passive kc_S_passive 4 (some .int) := fun w h => List.mem_cons_of_mem _ h
  have hw := fun w h => hts w (hT w h)
  have hown : s.vm.findClass kR_S = some m.cls := findClass_of_methodNamed B.named
  have hlocks := B.notSynchronized
  subst hsz
  have hD : va_D (kA (kC n) ad s.heap.size) (kW (kC n) ad (gC n ad cN cB cL σ)) := kD_any _ hD0
  have hS : va_S (kA (kC n) ad s.heap.size) s.heap s.heap [] := va_S.rf
  have hl := lv_entry ([.ref (ad (0, 0)), .int k, .int on]) (n := 4) (Nat.le_of_ble_eq_true rfl)
  rw [lg_entry_eq]
  generalize (lg_sl ([.ref (ad (0, 0)), .int k, .int on]) ++ List.replicate (4 - (lg_sl ([.ref (ad (0, 0)), .int k, .int on])).length) Slot.unset).toArray = ls at hl ⊢
  have hl : lv_has ls 4 [(0, .ref (ad (0, 0))), (1, .int k), (2, .int on)] := hl
  refine lv_aload_n hx hb kd_S_passive_0 rfl (lv_at hl 0 rfl) ?_
  refine lv_iload_n hx hb kd_S_passive_1 rfl (lv_at hl 1 rfl) ?_
  refine kx_Vi (G := gC n ad cN cB cL) (σ := σ) (κ := (0, 0)) (ci := 2) (fs := thisL ad σ) (As := [.int k]) (rest := []) (n := 1) hx hb hml hown hts hT (ct_S_isNode l D hn ad cN cB cL σ k s.heap.size) kw_107 kw_109 ks_0 kw_1 kw_110 (by decide +kernel) ⟨rfl, rfl⟩ ⟨Nat.le_of_ble_eq_true rfl, Nat.le_of_ble_eq_true rfl⟩ hK hP hD hS kC_0 rfl rfl rfl hl.1 (Nat.le_of_ble_eq_true rfl) kd_S_passive_2 rfl ⟨Nat.zero_le _, Nat.zero_le _⟩ (fun r_1 τ2 H locs hq3 hP hD hS => ?_)
  obtain ⟨⟨rfl, i, hi, hk⟩ | ⟨rfl, hno⟩, rfl⟩ := hq3
  · refine lv_if_ne (tgt := 10) hx hb kd_S_passive_5 (by decide) (fun _ => ?_) (fun c0 => absurd c0 (by decide))
    refine lv_aload_n hx hb kd_S_passive_10 rfl (lv_at hl 0 rfl) ?_
    refine kx_get (ci := 2) (fs := thisL ad σ) (v := .ref (ad (1, 0))) hx hb hw ki_S hown hK hP kC_0 rfl rfl 0 (by decide) kw_90 rfl rfl kd_S_passive_11 ?_
    refine lv_iload_n hx hb kd_S_passive_14 rfl (lv_at hl 1 rfl) ?_
    refine lv_iconst (v := 1) hx hb kd_S_passive_15 (by decide) ?_
    refine lv_isub hx hb kd_S_passive_16 ?_
    refine kx_aald (i := i) hx hb hK hP kC_1 0 rfl rfl (by rw [hk]; exact nI_pred i) hi (by omega) rfl kd_S_passive_17 ?_
    refine lv_astore_n (lv' := [(3, .ref (ad (3, i))), (0, .ref (ad (0, 0))), (1, .int k), (2, .int on)]) hx hb kd_S_passive_18 rfl hl (by decide) rfl (fun ls hl => ?_)
    refine lv_aload_n hx hb kd_S_passive_19 rfl (lv_at hl 0 rfl) ?_
    refine lv_iload_n hx hb kd_S_passive_20 rfl (lv_at hl 3 rfl) ?_
    refine kx_put (ci := 1) (fs := nodeL ad i (σ.1 i)) (v := .int on) (g2 := gC n ad cN cB cL (setN σ i ((σ.1 i).1, (σ.1 i).2.1, (σ.1 i).2.2.1, (σ.1 i).2.2.2.1, (σ.1 i).2.2.2.2.1, on, (σ.1 i).2.2.2.2.2.2.1, (σ.1 i).2.2.2.2.2.2.2))) hx hb hw ki_N kt_N ko_N kn_N hown hK hP hD hS (kC_3 hi) rfl rfl 7 (by decide) kw_66 rfl rfl (nar_b hon) (fit_b hon) (Nat.le_of_ble_eq_true rfl) (gC_N rfl) kd_S_passive_21 (fun H locs hP hD hS => ?_)
    generalize hτ4 : setN σ i ((σ.1 i).1, (σ.1 i).2.1, (σ.1 i).2.2.1, (σ.1 i).2.2.2.1, (σ.1 i).2.2.2.2.1, on, (σ.1 i).2.2.2.2.2.2.1, (σ.1 i).2.2.2.2.2.2.2) = τ4 at hP hD
    refine lv_aload_n hx hb kd_S_passive_24 rfl (lv_at hl 0 rfl) ?_
    refine kx_get (ci := 1) (fs := nodeL ad i (τ4.1 i)) (v := .int ((τ4.1 i).1)) hx hb hw ki_N hown hK hP (kC_3 hi) rfl rfl 2 (by decide) kw_58 rfl rfl kd_S_passive_25 ?_
    exact W.iret (v := (τ4.1 i).1) hx hb hr (fun t ht hW => ⟨⟨(τ4.1 i).1, τ4, rfl, ndP_y hn.2 hi hk (by subst hτ4; unfold paF; rfl), by rw [ht]; exact hP, va_K.moved hW.alike hK, hD.weaken (fun _ _ _ _ => trivial)⟩, hS.F ht⟩) hS.2.2 kd_S_passive_28
  · refine lv_if_ne (tgt := 10) hx hb kd_S_passive_5 (by decide) (fun c0 => absurd rfl c0) (fun _ => ?_)
    refine lv_iconst (v := (-1)) hx hb kd_S_passive_8 (by decide) ?_
    exact W.iret (v := (-1)) hx hb hr (fun t ht hW => ⟨⟨(-1), σ, rfl, ndP_n hno rfl, by rw [ht]; exact hP, va_K.moved hW.alike hK, hD.weaken (fun _ _ _ _ => trivial)⟩, hS.F ht⟩) hS.2.2 kd_S_passive_9
/-- the nodes of which a frame speaks, one after the other -/
def wkL (f : Int32) (σ : CS) : Nat → CS × Int32
  | 0 => (σ, 0)
  | k + 1 =>
    if nI (k + 1) - nI (k + 1) / 16 * 16 = f - f / 16 * 16 then
      (if ((wkL f σ k).1.1 k).2.2.2.2.2.2.1 = 0 then (if cwk ((wkL f σ k).1.1 k).1 then (wkU (wkL f σ k).1 k, (wkL f σ k).2 + 1) else wkL f σ k) else wkL f σ k)
    else wkL f σ k
def waF (n : Nat) (σ : CS) (f : Int32) (t : Int64) : Int32 × CS :=
  if f < 0 then (-2, σ) else if f > 2047 then (-2, σ) else if okT σ.2.2.1 t then ((wkL f (goT n σ t) n).2, (wkL f (goT n σ t) n).1) else (-2, σ)
set_option maxHeartbeats 4000000 in
set_option maxRecDepth 100000 in
theorem ct_S_wake (l : Launch) (D : va_G) {n : Nat} (hn : 1 ≤ n ∧ n ≤ 64) (ad : Nat × Nat → Nat) (cN cB cL : ClassId) (σ : CS) (f : Int32) (t : Int64) {a : Nat} (ha : σ.2.2.1 = lN a) (hA : a < 2 ^ 30) (sz : Nat) : Met l ky_S_wake (km ky_S_wake kc_S_wake 10 (some .int)) ({ frames := 7, cells := 0, slots := 0, locals := 158 }) (cPre D n ad cN cB cL σ [.ref (ad (0, 0)), .int f, .long t] sz) (cQi D n ad cN cB cL sz (fun r τ => (r, τ) = waF n σ f t)) 0 0 (kA (kC n) ad sz) := by
  refine Met.ofW (cc := kc_S_wake) (maxL := 10) (ret := (some .int)) (by decide) rfl ?_
  intro p e s m args below meth c s₁ B hml hv
  obtain ⟨rfl, hsz, hP, hK, hD0⟩ := hv
  have hx := B.exec
  have hb := B.bytes
  have hr := B.returns
  have hts := atoms_spec (ws := km ky_S_wake kc_S_wake 10 (some .int)) B.pre
  have hT : ∀ w ∈ kB_l, w ∈ km ky_S_wake kc_S_wake 10 (some .int) := fun w h => List.mem_cons_of_mem _ h
  have hw := fun w h => hts w (hT w h)
  have hown : s.vm.findClass kR_S = some m.cls := findClass_of_methodNamed B.named
  have hlocks := B.notSynchronized
  subst hsz
  have hD : va_D (kA (kC n) ad s.heap.size) (kW (kC n) ad (gC n ad cN cB cL σ)) := kD_any _ hD0
  have hS : va_S (kA (kC n) ad s.heap.size) s.heap s.heap [] := va_S.rf
  have hl := lv_entry ([.ref (ad (0, 0)), .int f, .long t]) (n := 10) (Nat.le_of_ble_eq_true rfl)
  rw [lg_entry_eq]
  generalize (lg_sl ([.ref (ad (0, 0)), .int f, .long t]) ++ List.replicate (10 - (lg_sl ([.ref (ad (0, 0)), .int f, .long t])).length) Slot.unset).toArray = ls at hl ⊢
  have hl : lv_has ls 10 [(0, .ref (ad (0, 0))), (1, .int f), (2, .long t)] := hl
  refine lv_iload_n hx hb kd_S_wake_0 rfl (lv_at hl 1 rfl) ?_
  refine lv_if_lt (tgt := 19) hx hb kd_S_wake_1 (by decide) (fun c_1 => ?_) (fun c_1 => ?_)
  · refine lv_bipush (v := (-2)) hx hb kd_S_wake_19 (by decide) ?_
    exact W.iret (v := (-2)) hx hb hr (fun t ht hW => ⟨⟨(-2), σ, rfl, by unfold waF; rw [if_pos c_1], by rw [ht]; exact hP, va_K.moved hW.alike hK, hD.weaken (fun _ _ _ _ => trivial)⟩, hS.F ht⟩) hS.2.2 kd_S_wake_21
  · refine lv_iload_n hx hb kd_S_wake_4 rfl (lv_at hl 1 rfl) ?_
    refine lv_sipush (v := 2047) hx hb kd_S_wake_5 (by decide) ?_
    refine lv_icmp_gt (tgt := 19) hx hb kd_S_wake_8 (by decide) (fun c_2 => ?_) (fun c_2 => ?_)
    · refine lv_bipush (v := (-2)) hx hb kd_S_wake_19 (by decide) ?_
      exact W.iret (v := (-2)) hx hb hr (fun t ht hW => ⟨⟨(-2), σ, rfl, by unfold waF; rw [if_neg c_1, if_pos c_2], by rw [ht]; exact hP, va_K.moved hW.alike hK, hD.weaken (fun _ _ _ _ => trivial)⟩, hS.F ht⟩) hS.2.2 kd_S_wake_21
    · refine lv_aload_n hx hb kd_S_wake_11 rfl (lv_at hl 0 rfl) ?_
      refine lv_lload_n hx hb kd_S_wake_12 rfl (lv_at hl 2 rfl) ?_
      refine kx_Vi (G := gC n ad cN cB cL) (σ := σ) (κ := (0, 0)) (ci := 2) (fs := thisL ad σ) (As := [.long t]) (rest := []) (n := 1) hx hb hml hown hts hT (ct_S_isTime l D hn ad cN cB cL σ t s.heap.size) kw_135 kw_137 ks_3 kw_1 kw_138 (by decide +kernel) ⟨rfl, rfl⟩ ⟨Nat.le_of_ble_eq_true rfl, Nat.le_of_ble_eq_true rfl⟩ hK hP hD hS kC_0 rfl rfl rfl hl.1 (Nat.le_of_ble_eq_true rfl) kd_S_wake_13 rfl ⟨Nat.zero_le _, Nat.zero_le _⟩ (fun r_3 τ4 H locs hq5 hP hD hS => ?_)
      obtain ⟨⟨rfl, q_6⟩ | ⟨rfl, q_6⟩, rfl⟩ := hq5
      · refine lv_if_ne (tgt := 22) hx hb kd_S_wake_16 (by decide) (fun _ => ?_) (fun c0 => absurd c0 (by decide))
        refine lv_aload_n hx hb kd_S_wake_22 rfl (lv_at hl 0 rfl) ?_
        refine lv_lload_n hx hb kd_S_wake_23 rfl (lv_at hl 2 rfl) ?_
        refine kx_Vv (G := gC n ad cN cB cL) (σ := σ) (κ := (0, 0)) (ci := 2) (fs := thisL ad σ) (As := [.long t]) (rest := []) (n := 1) hx hb hml hown hts hT (ct_S_goOn l D hn ad cN cB cL σ t q_6 ha hA H.size) kw_140 kw_142 ks_4 kw_1 kw_143 (by decide +kernel) ⟨rfl, rfl⟩ ⟨Nat.le_of_ble_eq_true rfl, Nat.le_of_ble_eq_true rfl⟩ hK hP hD hS kC_0 rfl rfl rfl hl.1 (Nat.le_of_ble_eq_true rfl) kd_S_wake_24 rfl ⟨Nat.zero_le _, Nat.zero_le _⟩ (fun τ8 H locs hq9 hP hD hS => ?_)
        have hτ8 := hq9
        refine lv_iconst (v := 0) hx hb kd_S_wake_27 (by decide) ?_
        refine lv_istore (lv' := [(4, .int 0), (0, .ref (ad (0, 0))), (1, .int f), (2, .long t)]) hx hb kd_S_wake_28 hl (by decide) rfl (fun ls hl => ?_)
        refine lv_aload_n hx hb kd_S_wake_30 rfl (lv_at hl 1 rfl) ?_
        refine kx_get (ci := 2) (fs := thisL ad τ8) (v := .ref (ad (1, 0))) hx hb hw ki_S hown hK hP kC_0 rfl rfl 0 (by decide) kw_90 rfl rfl kd_S_wake_31 ?_
        refine lv_astore (lv' := [(5, .ref (ad (1, 0))), (4, .int 0), (0, .ref (ad (0, 0))), (1, .int f), (2, .long t)]) hx hb kd_S_wake_34 hl (by decide) rfl (fun ls hl => ?_)
        refine lv_aload hx hb kd_S_wake_36 (lv_at hl 0 rfl) ?_
        refine kx_alen (n := n) hx hb hK hP kC_1 0 rfl rfl kd_S_wake_38 ?_
        refine lv_istore (lv' := [(6, .int (nI n)), (5, .ref (ad (1, 0))), (4, .int 0), (0, .ref (ad (0, 0))), (1, .int f), (2, .long t)]) hx hb kd_S_wake_39 hl (by decide) rfl (fun ls hl => ?_)
        refine lv_iconst (v := 0) hx hb kd_S_wake_41 (by decide) ?_
        refine lv_istore (lv' := [(7, .int 0), (6, .int (nI n)), (5, .ref (ad (1, 0))), (4, .int 0), (0, .ref (ad (0, 0))), (1, .int f), (2, .long t)]) hx hb kd_S_wake_42 hl (by decide) rfl (fun ls hl => ?_)
        have loop : ∀ (q j : Nat) (ρj : CS) (x4 : Int32) (H : Heap) (locs : List Loc) (ls : Array Slot), j ≤ n → n < j + q → ((ρj, x4) = wkL f (goT n σ t) j) → va_P D kCl (kW (kC n) ad (gC n ad cN cB cL ρj)) H → va_D (kA (kC n) ad s.heap.size) (kW (kC n) ad (gC n ad cN cB cL ρj)) → va_S (kA (kC n) ad s.heap.size) s.heap H locs → lv_has ls 10 [(0, .ref (ad (0, 0))), (1, .int f), (2, .long t), (5, .ref (ad (1, 0))), (6, .int (nI n)), (4, .int x4), (7, .int (nI j))] → W p l e (headSpec (km ky_S_wake kc_S_wake 10 (some .int)) ({ frames := 7, cells := 0, slots := 0, locals := 158 })).room s m [.ref (ad (0, 0)), .int f, .long t].toArray below meth c H locs 0 0 (MQ below (cQi D n ad cN cB cL s.heap.size (fun r τ => (r, τ) = waF n σ f t)) [.ref (ad (0, 0)), .int f, .long t].toArray s 0 0 (kA (kC n) ad s.heap.size)) (F0 m 44 ls []) := by
          intro q
          induction q with
          | zero => intro j ρj x4 H locs ls hj_j hq_j; exact absurd hq_j (by omega)
          | succ q ih_j =>
            intro j ρj x4 H locs ls hj_j hq_j hI_j hP hD hS hl
            refine lv_iload hx hb kd_S_wake_44 (lv_at hl 6 rfl) ?_
            refine lv_iload hx hb kd_S_wake_46 (lv_at hl 4 rfl) ?_
            refine lv_icmp_ge (tgt := 116) hx hb kd_S_wake_48 (by decide) (fun c_10 => ?_) (fun c_10 => ?_)
            · have hje_j : j = n := lp_end (by omega) hj_j c_10
              refine lv_iload hx hb kd_S_wake_116 (lv_at hl 5 rfl) ?_
              exact W.iret (v := x4) hx hb hr (fun t ht hW => ⟨⟨x4, ρj, rfl, by rw [hje_j] at hI_j; unfold waF; rw [if_neg c_1, if_neg c_2, if_pos q_6, ← hI_j], by rw [ht]; exact hP, va_K.moved hW.alike hK, hD.weaken (fun _ _ _ _ => trivial)⟩, hS.F ht⟩) hS.2.2 kd_S_wake_118
            · have hlt_j : j < n := lp_go (by omega) hj_j c_10
              refine lv_aload hx hb kd_S_wake_51 (lv_at hl 3 rfl) ?_
              refine lv_iload hx hb kd_S_wake_53 (lv_at hl 6 rfl) ?_
              refine kx_aald (i := j) hx hb hK hP kC_1 0 rfl rfl rfl hlt_j (by omega) rfl kd_S_wake_55 ?_
              refine lv_astore (lv' := [(8, .ref (ad (3, j))), (0, .ref (ad (0, 0))), (1, .int f), (2, .long t), (5, .ref (ad (1, 0))), (6, .int (nI n)), (4, .int x4), (7, .int (nI j))]) hx hb kd_S_wake_56 hl (by decide) rfl (fun ls hl => ?_)
              refine lv_aload hx hb kd_S_wake_58 (lv_at hl 0 rfl) ?_
              refine kx_get (ci := 1) (fs := nodeL ad j (ρj.1 j)) (v := .int (nI (j + 1))) hx hb hw ki_N hown hK hP (kC_3 hlt_j) rfl rfl 0 (by decide) kw_55 rfl rfl kd_S_wake_60 ?_
              refine lv_bipush (v := 16) hx hb kd_S_wake_63 (by decide) ?_
              refine lv_irem hx hb kd_S_wake_65 (by decide) ?_
              refine lv_iload_n hx hb kd_S_wake_66 rfl (lv_at hl 2 rfl) ?_
              refine lv_bipush (v := 16) hx hb kd_S_wake_67 (by decide) ?_
              refine lv_irem hx hb kd_S_wake_69 (by decide) ?_
              refine lv_icmp_ne (tgt := 77) hx hb kd_S_wake_70 (by decide) (fun c_11 => ?_) (fun c_11 => ?_)
              · refine lv_iconst (v := 0) hx hb kd_S_wake_77 (by decide) ?_
                refine lv_istore (lv' := [(9, .int 0), (8, .ref (ad (3, j))), (0, .ref (ad (0, 0))), (1, .int f), (2, .long t), (5, .ref (ad (1, 0))), (6, .int (nI n)), (4, .int x4), (7, .int (nI j))]) hx hb kd_S_wake_78 hl (by decide) rfl (fun ls hl => ?_)
                refine lv_iload hx hb kd_S_wake_80 (lv_at hl 0 rfl) ?_
                refine lv_if_eq (tgt := 110) hx hb kd_S_wake_82 (by decide) (fun _ => ?_) (fun c0 => absurd (by decide) c0)
                refine lv_iinc (v := nI (j + 1)) (lv' := [(7, .int (nI (j + 1))), (9, .int 0), (8, .ref (ad (3, j))), (0, .ref (ad (0, 0))), (1, .int f), (2, .long t), (5, .ref (ad (1, 0))), (6, .int (nI n)), (4, .int x4)]) hx hb kd_S_wake_110 hl (k := 8) rfl (nI_1 j) (by decide) rfl (fun ls hl => ?_)
                refine lv_goto (tgt := 44) hx hb kd_S_wake_113 (by decide) ?_
                exact ih_j (j + 1) ρj x4 _ _ _ hlt_j (by omega) (by rw [wkL, ← hI_j, if_neg c_11]) hP hD hS (lv_sub hl [3, 4, 5, 6, 7, 8, 0] rfl)
              · refine lv_iconst (v := 1) hx hb kd_S_wake_73 (by decide) ?_
                refine lv_goto (tgt := 78) hx hb kd_S_wake_74 (by decide) ?_
                refine lv_istore (lv' := [(9, .int 1), (8, .ref (ad (3, j))), (0, .ref (ad (0, 0))), (1, .int f), (2, .long t), (5, .ref (ad (1, 0))), (6, .int (nI n)), (4, .int x4), (7, .int (nI j))]) hx hb kd_S_wake_78 hl (by decide) rfl (fun ls hl => ?_)
                refine lv_iload hx hb kd_S_wake_80 (lv_at hl 0 rfl) ?_
                refine lv_if_eq (tgt := 110) hx hb kd_S_wake_82 (by decide) (fun c0 => absurd c0 (by decide)) (fun _ => ?_)
                refine lv_aload hx hb kd_S_wake_85 (lv_at hl 1 rfl) ?_
                refine kx_get (ci := 1) (fs := nodeL ad j (ρj.1 j)) (v := .int ((ρj.1 j).2.2.2.2.2.2.1)) hx hb hw ki_N hown hK hP (kC_3 hlt_j) rfl rfl 8 (by decide) kw_67 rfl rfl kd_S_wake_87 ?_
                refine lv_if_ne (tgt := 110) hx hb kd_S_wake_90 (by decide) (fun c_12 => ?_) (fun c_12 => ?_)
                · refine lv_iinc (v := nI (j + 1)) (lv' := [(7, .int (nI (j + 1))), (9, .int 1), (8, .ref (ad (3, j))), (0, .ref (ad (0, 0))), (1, .int f), (2, .long t), (5, .ref (ad (1, 0))), (6, .int (nI n)), (4, .int x4)]) hx hb kd_S_wake_110 hl (k := 8) rfl (nI_1 j) (by decide) rfl (fun ls hl => ?_)
                  refine lv_goto (tgt := 44) hx hb kd_S_wake_113 (by decide) ?_
                  exact ih_j (j + 1) ρj x4 _ _ _ hlt_j (by omega) (by rw [wkL, ← hI_j, if_pos c_11, if_neg c_12]) hP hD hS (lv_sub hl [3, 4, 5, 6, 7, 8, 0] rfl)
                · refine lv_aload hx hb kd_S_wake_93 (lv_at hl 1 rfl) ?_
                  refine kx_Vi (G := gC n ad cN cB cL) (σ := ρj) (κ := (3, j)) (ci := 1) (fs := nodeL ad j (ρj.1 j)) (As := []) (rest := []) (n := 0) hx hb hml hown hts hT (ct_N_canWake l D hn ad cN cB cL ρj hlt_j H.size) kw_115 kw_116 kw_117 kw_4 kw_118 (by decide +kernel) ⟨rfl, rfl⟩ ⟨Nat.le_of_ble_eq_true rfl, Nat.le_of_ble_eq_true rfl⟩ hK hP hD hS (kC_3 hlt_j) rfl rfl rfl hl.1 (Nat.le_of_ble_eq_true rfl) kd_S_wake_95 rfl ⟨Nat.zero_le _, Nat.zero_le _⟩ (fun r_13 τ14 H locs hq15 hP hD hS => ?_)
                  obtain ⟨⟨rfl, q_16⟩ | ⟨rfl, q_16⟩, rfl⟩ := hq15
                  · refine lv_if_eq (tgt := 110) hx hb kd_S_wake_98 (by decide) (fun c0 => absurd c0 (by decide)) (fun _ => ?_)
                    refine lv_aload_n hx hb kd_S_wake_101 rfl (lv_at hl 2 rfl) ?_
                    refine lv_aload hx hb kd_S_wake_102 (lv_at hl 1 rfl) ?_
                    refine kx_Vv (G := gC n ad cN cB cL) (σ := ρj) (κ := (0, 0)) (ci := 2) (fs := thisL ad ρj) (As := [.ref (ad (3, j))]) (rest := []) (n := 1) hx hb hml hown hts hT (ct_S_wakeUp l D hn ad cN cB cL ρj hlt_j H.size) kw_119 kw_121 ks_1 kw_1 kw_122 (by decide +kernel) ⟨rfl, rfl⟩ ⟨Nat.le_of_ble_eq_true rfl, Nat.le_of_ble_eq_true rfl⟩ hK hP hD hS kC_0 rfl rfl rfl hl.1 (Nat.le_of_ble_eq_true rfl) kd_S_wake_104 rfl ⟨Nat.zero_le _, Nat.zero_le _⟩ (fun τ18 H locs hq19 hP hD hS => ?_)
                    have hτ18 := hq19
                    refine lv_iinc (v := x4 + 1) (lv' := [(4, .int (x4 + 1)), (9, .int 1), (8, .ref (ad (3, j))), (0, .ref (ad (0, 0))), (1, .int f), (2, .long t), (5, .ref (ad (1, 0))), (6, .int (nI n)), (7, .int (nI j))]) hx hb kd_S_wake_107 hl (k := 7) rfl rfl (by decide) rfl (fun ls hl => ?_)
                    refine lv_iinc (v := nI (j + 1)) (lv' := [(7, .int (nI (j + 1))), (4, .int (x4 + 1)), (9, .int 1), (8, .ref (ad (3, j))), (0, .ref (ad (0, 0))), (1, .int f), (2, .long t), (5, .ref (ad (1, 0))), (6, .int (nI n))]) hx hb kd_S_wake_110 hl (k := 8) rfl (nI_1 j) (by decide) rfl (fun ls hl => ?_)
                    refine lv_goto (tgt := 44) hx hb kd_S_wake_113 (by decide) ?_
                    exact ih_j (j + 1) τ18 (x4 + 1) _ _ _ hlt_j (by omega) (by rw [wkL, ← hI_j, if_pos c_11, if_pos c_12, if_pos q_16, hτ18]) hP hD hS (lv_sub hl [4, 5, 6, 7, 8, 1, 0] rfl)
                  · refine lv_if_eq (tgt := 110) hx hb kd_S_wake_98 (by decide) (fun _ => ?_) (fun c0 => absurd (by decide) c0)
                    refine lv_iinc (v := nI (j + 1)) (lv' := [(7, .int (nI (j + 1))), (9, .int 1), (8, .ref (ad (3, j))), (0, .ref (ad (0, 0))), (1, .int f), (2, .long t), (5, .ref (ad (1, 0))), (6, .int (nI n)), (4, .int x4)]) hx hb kd_S_wake_110 hl (k := 8) rfl (nI_1 j) (by decide) rfl (fun ls hl => ?_)
                    refine lv_goto (tgt := 44) hx hb kd_S_wake_113 (by decide) ?_
                    exact ih_j (j + 1) ρj x4 _ _ _ hlt_j (by omega) (by rw [wkL, ← hI_j, if_pos c_11, if_pos c_12, if_neg q_16]) hP hD hS (lv_sub hl [3, 4, 5, 6, 7, 8, 0] rfl)
        exact loop (n + 1) 0 τ8 0 _ _ _ (Nat.zero_le _) (by omega) (by rw [hτ8]; rfl) hP hD hS (lv_sub hl [4, 5, 6, 2, 1, 3, 0] rfl)
      · refine lv_if_ne (tgt := 22) hx hb kd_S_wake_16 (by decide) (fun c0 => absurd rfl c0) (fun _ => ?_)
        refine lv_bipush (v := (-2)) hx hb kd_S_wake_19 (by decide) ?_
        exact W.iret (v := (-2)) hx hb hr (fun t ht hW => ⟨⟨(-2), σ, rfl, by unfold waF; rw [if_neg c_1, if_neg c_2, if_neg q_6], by rw [ht]; exact hP, va_K.moved hW.alike hK, hD.weaken (fun _ _ _ _ => trivial)⟩, hS.F ht⟩) hS.2.2 kd_S_wake_21
def biF (σ : CS) (i : Nat) (b on : Int32) : Int32 × CS :=
  if b < 0 then (-2, σ) else if b < 32 then
    (let s1 : CS := if on = 0 then setN σ i ((σ.1 i).1, (σ.1 i).2.1, (σ.1 i).2.2.1, (σ.1 i).2.2.2.1, (σ.1 i).2.2.2.2.1, (σ.1 i).2.2.2.2.2.1, (σ.1 i).2.2.2.2.2.2.1, (σ.1 i).2.2.2.2.2.2.2 &&& ((1 <<< (b &&& 31)) ^^^ (-1))) else setN σ i ((σ.1 i).1, (σ.1 i).2.1, (σ.1 i).2.2.1, (σ.1 i).2.2.2.1, (σ.1 i).2.2.2.2.1, (σ.1 i).2.2.2.2.2.1, (σ.1 i).2.2.2.2.2.2.1, (σ.1 i).2.2.2.2.2.2.2 ||| (1 <<< (b &&& 31)))
     (bcF (s1.1 i).2.2.2.2.2.2.2, s1)) else (-2, σ)
set_option maxHeartbeats 4000000 in
set_option maxRecDepth 100000 in
theorem ct_S_bit (l : Launch) (D : va_G) {n : Nat} (hn : 1 ≤ n ∧ n ≤ 64) (ad : Nat × Nat → Nat) (cN cB cL : ClassId) (σ : CS) (k b on : Int32) (sz : Nat) : Met l ky_S_bit (km ky_S_bit kc_S_bit 6 (some .int)) ({ frames := 1, cells := 0, slots := 0, locals := 21 }) (cPre D n ad cN cB cL σ [.ref (ad (0, 0)), .int k, .int b, .int on] sz) (cQi D n ad cN cB cL sz (fun r τ => ndP n k (fun i => (r, τ) = biF σ i b on) ((r, τ) = (-1, σ)))) 0 0 (kA (kC n) ad sz) := by
  refine Met.ofW (cc := kc_S_bit) (maxL := 6) (ret := (some .int)) (by decide) rfl ?_
  intro p e s m args below meth c s₁ B hml hv
  obtain ⟨rfl, hsz, hP, hK, hD0⟩ := hv
  have hx := B.exec
  have hb := B.bytes
  have hr := B.returns
  have hts := atoms_spec (ws := km ky_S_bit kc_S_bit 6 (some .int)) B.pre
  have hT : ∀ w ∈ kB_l, w ∈ km ky_S_bit kc_S_bit 6 (some .int) := fun w h => List.mem_cons_of_mem _ h
  have hw := fun w h => hts w (hT w h)
  have hown : s.vm.findClass kR_S = some m.cls := findClass_of_methodNamed B.named
  have hlocks := B.notSynchronized
  subst hsz
  have hD : va_D (kA (kC n) ad s.heap.size) (kW (kC n) ad (gC n ad cN cB cL σ)) := kD_any _ hD0
  have hS : va_S (kA (kC n) ad s.heap.size) s.heap s.heap [] := va_S.rf
  have hl := lv_entry ([.ref (ad (0, 0)), .int k, .int b, .int on]) (n := 6) (Nat.le_of_ble_eq_true rfl)
  rw [lg_entry_eq]
  generalize (lg_sl ([.ref (ad (0, 0)), .int k, .int b, .int on]) ++ List.replicate (6 - (lg_sl ([.ref (ad (0, 0)), .int k, .int b, .int on])).length) Slot.unset).toArray = ls at hl ⊢
  have hl : lv_has ls 6 [(0, .ref (ad (0, 0))), (1, .int k), (2, .int b), (3, .int on)] := hl
  refine lv_aload_n hx hb kd_S_bit_0 rfl (lv_at hl 0 rfl) ?_
  refine lv_iload_n hx hb kd_S_bit_1 rfl (lv_at hl 1 rfl) ?_
  refine kx_Vi (G := gC n ad cN cB cL) (σ := σ) (κ := (0, 0)) (ci := 2) (fs := thisL ad σ) (As := [.int k]) (rest := []) (n := 1) hx hb hml hown hts hT (ct_S_isNode l D hn ad cN cB cL σ k s.heap.size) kw_107 kw_109 ks_0 kw_1 kw_110 (by decide +kernel) ⟨rfl, rfl⟩ ⟨Nat.le_of_ble_eq_true rfl, Nat.le_of_ble_eq_true rfl⟩ hK hP hD hS kC_0 rfl rfl rfl hl.1 (Nat.le_of_ble_eq_true rfl) kd_S_bit_2 rfl ⟨Nat.zero_le _, Nat.zero_le _⟩ (fun r_1 τ2 H locs hq3 hP hD hS => ?_)
  obtain ⟨⟨rfl, i, hi, hk⟩ | ⟨rfl, hno⟩, rfl⟩ := hq3
  · refine lv_if_ne (tgt := 10) hx hb kd_S_bit_5 (by decide) (fun _ => ?_) (fun c0 => absurd c0 (by decide))
    refine lv_iload_n hx hb kd_S_bit_10 rfl (lv_at hl 2 rfl) ?_
    refine lv_if_lt (tgt := 20) hx hb kd_S_bit_11 (by decide) (fun c_4 => ?_) (fun c_4 => ?_)
    · refine lv_bipush (v := (-2)) hx hb kd_S_bit_20 (by decide) ?_
      exact W.iret (v := (-2)) hx hb hr (fun t ht hW => ⟨⟨(-2), σ, rfl, ndP_y hn.2 hi hk (by unfold biF; rw [if_pos c_4]), by rw [ht]; exact hP, va_K.moved hW.alike hK, hD.weaken (fun _ _ _ _ => trivial)⟩, hS.F ht⟩) hS.2.2 kd_S_bit_22
    · refine lv_iload_n hx hb kd_S_bit_14 rfl (lv_at hl 2 rfl) ?_
      refine lv_bipush (v := 32) hx hb kd_S_bit_15 (by decide) ?_
      refine lv_icmp_lt (tgt := 23) hx hb kd_S_bit_17 (by decide) (fun c_5 => ?_) (fun c_5 => ?_)
      · refine lv_aload_n hx hb kd_S_bit_23 rfl (lv_at hl 0 rfl) ?_
        refine kx_get (ci := 2) (fs := thisL ad σ) (v := .ref (ad (1, 0))) hx hb hw ki_S hown hK hP kC_0 rfl rfl 0 (by decide) kw_90 rfl rfl kd_S_bit_24 ?_
        refine lv_iload_n hx hb kd_S_bit_27 rfl (lv_at hl 1 rfl) ?_
        refine lv_iconst (v := 1) hx hb kd_S_bit_28 (by decide) ?_
        refine lv_isub hx hb kd_S_bit_29 ?_
        refine kx_aald (i := i) hx hb hK hP kC_1 0 rfl rfl (by rw [hk]; exact nI_pred i) hi (by omega) rfl kd_S_bit_30 ?_
        refine lv_astore (lv' := [(4, .ref (ad (3, i))), (0, .ref (ad (0, 0))), (1, .int k), (2, .int b), (3, .int on)]) hx hb kd_S_bit_31 hl (by decide) rfl (fun ls hl => ?_)
        refine lv_iconst (v := 1) hx hb kd_S_bit_33 (by decide) ?_
        refine lv_iload_n hx hb kd_S_bit_34 rfl (lv_at hl 3 rfl) ?_
        refine lv_ishl hx hb kd_S_bit_35 ?_
        refine lv_istore (lv' := [(5, .int (1 <<< (b &&& 31))), (4, .ref (ad (3, i))), (0, .ref (ad (0, 0))), (1, .int k), (2, .int b), (3, .int on)]) hx hb kd_S_bit_36 hl (by decide) rfl (fun ls hl => ?_)
        refine lv_aload hx hb kd_S_bit_38 (lv_at hl 1 rfl) ?_
        refine lv_iload_n hx hb kd_S_bit_40 rfl (lv_at hl 5 rfl) ?_
        refine lv_if_eq (tgt := 55) hx hb kd_S_bit_41 (by decide) (fun c_6 => ?_) (fun c_6 => ?_)
        · refine lv_aload hx hb kd_S_bit_55 (lv_at hl 1 rfl) ?_
          refine kx_get (ci := 1) (fs := nodeL ad i (σ.1 i)) (v := .int ((σ.1 i).2.2.2.2.2.2.2)) hx hb hw ki_N hown hK hP (kC_3 hi) rfl rfl 9 (by decide) kw_68 rfl rfl kd_S_bit_57 ?_
          refine lv_iload hx hb kd_S_bit_60 (lv_at hl 0 rfl) ?_
          refine lv_iconst (v := (-1)) hx hb kd_S_bit_62 (by decide) ?_
          refine lv_ixor hx hb kd_S_bit_63 ?_
          refine lv_iand hx hb kd_S_bit_64 ?_
          refine kx_put (ci := 1) (fs := nodeL ad i (σ.1 i)) (v := .int (((σ.1 i).2.2.2.2.2.2.2) &&& ((1 <<< (b &&& 31)) ^^^ ((-1))))) (g2 := gC n ad cN cB cL (setN σ i ((σ.1 i).1, (σ.1 i).2.1, (σ.1 i).2.2.1, (σ.1 i).2.2.2.1, (σ.1 i).2.2.2.2.1, (σ.1 i).2.2.2.2.2.1, (σ.1 i).2.2.2.2.2.2.1, ((σ.1 i).2.2.2.2.2.2.2) &&& ((1 <<< (b &&& 31)) ^^^ ((-1)))))) hx hb hw ki_N kt_N ko_N kn_N hown hK hP hD hS (kC_3 hi) rfl rfl 9 (by decide) kw_68 rfl rfl rfl rfl (Nat.le_of_ble_eq_true rfl) (gC_N rfl) kd_S_bit_65 (fun H locs hP hD hS => ?_)
          generalize hτ7 : setN σ i ((σ.1 i).1, (σ.1 i).2.1, (σ.1 i).2.2.1, (σ.1 i).2.2.2.1, (σ.1 i).2.2.2.2.1, (σ.1 i).2.2.2.2.2.1, (σ.1 i).2.2.2.2.2.2.1, ((σ.1 i).2.2.2.2.2.2.2) &&& ((1 <<< (b &&& 31)) ^^^ ((-1)))) = τ7 at hP hD
          refine lv_aload hx hb kd_S_bit_68 (lv_at hl 1 rfl) ?_
          refine kx_get (ci := 1) (fs := nodeL ad i (τ7.1 i)) (v := .int ((τ7.1 i).2.2.2.2.2.2.2)) hx hb hw ki_N hown hK hP (kC_3 hi) rfl rfl 9 (by decide) kw_68 rfl rfl kd_S_bit_70 ?_
          refine kx_Si (G := gC n ad cN cB cL) (σ := τ7) (As := [.int ((τ7.1 i).2.2.2.2.2.2.2)]) (rest := []) (n := 1) hx hb hml hown hts hT (ct_I_bitCount l D hn ad cN cB cL τ7 ((τ7.1 i).2.2.2.2.2.2.2) H.size) kw_196 kw_197 kw_6 kw_198 (by decide +kernel) ⟨rfl, rfl⟩ ⟨Nat.le_of_ble_eq_true rfl, Nat.le_of_ble_eq_true rfl⟩ hK hP hD hS rfl hl.1 (Nat.le_of_ble_eq_true rfl) kd_S_bit_73 rfl ⟨Nat.zero_le _, Nat.zero_le _⟩ (fun r_8 τ9 H locs hq10 hP hD hS => ?_)
          obtain ⟨hr_8, rfl⟩ := hq10
          exact W.iret (v := r_8) hx hb hr (fun t ht hW => ⟨⟨r_8, τ7, rfl, ndP_y hn.2 hi hk (by rw [hr_8]; subst hτ7; unfold biF; rw [if_neg c_4, if_pos c_5, if_pos c_6]), by rw [ht]; exact hP, va_K.moved hW.alike hK, hD.weaken (fun _ _ _ _ => trivial)⟩, hS.F ht⟩) hS.2.2 kd_S_bit_76
        · refine lv_aload hx hb kd_S_bit_44 (lv_at hl 1 rfl) ?_
          refine kx_get (ci := 1) (fs := nodeL ad i (σ.1 i)) (v := .int ((σ.1 i).2.2.2.2.2.2.2)) hx hb hw ki_N hown hK hP (kC_3 hi) rfl rfl 9 (by decide) kw_68 rfl rfl kd_S_bit_46 ?_
          refine lv_iload hx hb kd_S_bit_49 (lv_at hl 0 rfl) ?_
          refine lv_ior hx hb kd_S_bit_51 ?_
          refine lv_goto (tgt := 65) hx hb kd_S_bit_52 (by decide) ?_
          refine kx_put (ci := 1) (fs := nodeL ad i (σ.1 i)) (v := .int (((σ.1 i).2.2.2.2.2.2.2) ||| (1 <<< (b &&& 31)))) (g2 := gC n ad cN cB cL (setN σ i ((σ.1 i).1, (σ.1 i).2.1, (σ.1 i).2.2.1, (σ.1 i).2.2.2.1, (σ.1 i).2.2.2.2.1, (σ.1 i).2.2.2.2.2.1, (σ.1 i).2.2.2.2.2.2.1, ((σ.1 i).2.2.2.2.2.2.2) ||| (1 <<< (b &&& 31))))) hx hb hw ki_N kt_N ko_N kn_N hown hK hP hD hS (kC_3 hi) rfl rfl 9 (by decide) kw_68 rfl rfl rfl rfl (Nat.le_of_ble_eq_true rfl) (gC_N rfl) kd_S_bit_65 (fun H locs hP hD hS => ?_)
          generalize hτ11 : setN σ i ((σ.1 i).1, (σ.1 i).2.1, (σ.1 i).2.2.1, (σ.1 i).2.2.2.1, (σ.1 i).2.2.2.2.1, (σ.1 i).2.2.2.2.2.1, (σ.1 i).2.2.2.2.2.2.1, ((σ.1 i).2.2.2.2.2.2.2) ||| (1 <<< (b &&& 31))) = τ11 at hP hD
          refine lv_aload hx hb kd_S_bit_68 (lv_at hl 1 rfl) ?_
          refine kx_get (ci := 1) (fs := nodeL ad i (τ11.1 i)) (v := .int ((τ11.1 i).2.2.2.2.2.2.2)) hx hb hw ki_N hown hK hP (kC_3 hi) rfl rfl 9 (by decide) kw_68 rfl rfl kd_S_bit_70 ?_
          refine kx_Si (G := gC n ad cN cB cL) (σ := τ11) (As := [.int ((τ11.1 i).2.2.2.2.2.2.2)]) (rest := []) (n := 1) hx hb hml hown hts hT (ct_I_bitCount l D hn ad cN cB cL τ11 ((τ11.1 i).2.2.2.2.2.2.2) H.size) kw_196 kw_197 kw_6 kw_198 (by decide +kernel) ⟨rfl, rfl⟩ ⟨Nat.le_of_ble_eq_true rfl, Nat.le_of_ble_eq_true rfl⟩ hK hP hD hS rfl hl.1 (Nat.le_of_ble_eq_true rfl) kd_S_bit_73 rfl ⟨Nat.zero_le _, Nat.zero_le _⟩ (fun r_12 τ13 H locs hq14 hP hD hS => ?_)
          obtain ⟨hr_12, rfl⟩ := hq14
          exact W.iret (v := r_12) hx hb hr (fun t ht hW => ⟨⟨r_12, τ11, rfl, ndP_y hn.2 hi hk (by rw [hr_12]; subst hτ11; unfold biF; rw [if_neg c_4, if_pos c_5, if_neg c_6]), by rw [ht]; exact hP, va_K.moved hW.alike hK, hD.weaken (fun _ _ _ _ => trivial)⟩, hS.F ht⟩) hS.2.2 kd_S_bit_76
      · refine lv_bipush (v := (-2)) hx hb kd_S_bit_20 (by decide) ?_
        exact W.iret (v := (-2)) hx hb hr (fun t ht hW => ⟨⟨(-2), σ, rfl, ndP_y hn.2 hi hk (by unfold biF; rw [if_neg c_4, if_neg c_5]), by rw [ht]; exact hP, va_K.moved hW.alike hK, hD.weaken (fun _ _ _ _ => trivial)⟩, hS.F ht⟩) hS.2.2 kd_S_bit_22
  · refine lv_if_ne (tgt := 10) hx hb kd_S_bit_5 (by decide) (fun c0 => absurd rfl c0) (fun _ => ?_)
    refine lv_iconst (v := (-1)) hx hb kd_S_bit_8 (by decide) ?_
    exact W.iret (v := (-1)) hx hb hr (fun t ht hW => ⟨⟨(-1), σ, rfl, ndP_n hno rfl, by rw [ht]; exact hP, va_K.moved hW.alike hK, hD.weaken (fun _ _ _ _ => trivial)⟩, hS.F ht⟩) hS.2.2 kd_S_bit_9
