/-! what a node says of itself -/
abbrev wnt (v : NV) : Prop := ¬ v.2.2.2.2.1 = 0 ∧ v.2.2.2.2.2.1 = 0
abbrev awk (x : Int32) : Prop := x = 4 ∨ x = 3
abbrev cwk (x : Int32) : Prop := x = 0 ∨ x = 1
/-- a time that is allowed -/
abbrev okT (now t : Int64) : Prop := ¬ t < now ∧ ¬ 1000 < t - now
theorem nar_b {x : Int32} (h : x = 0 ∨ x = 1) : narrow .boolean (.int x) = .int x := by rcases h with rfl | rfl <;> rfl
theorem fit_b {x : Int32} (h : x = 0 ∨ x = 1) : fits .boolean (.int x) = true := by rcases h with rfl | rfl <;> rfl
theorem isn_y {k : Int32} {n : Nat} (hn : n ≤ 64) (h1 : ¬ k < 1) (h2 : ¬ k > nI n) : ∃ i, i < n ∧ k = nI (i + 1) := by
  obtain ⟨j, hj, rfl⟩ := nI_of (x := k) (by
    intro h
    apply h1
    rw [Int32.lt_iff_toInt_lt] at h ⊢
    have : (0 : Int32).toInt = 0 := rfl
    have : (1 : Int32).toInt = 1 := rfl
    omega)
  have a1 : 1 ≤ j := by
    rcases Nat.lt_or_ge j 1 with h | h
    · exact absurd (nI_lt (b := 1) h (by decide)) h1
    · exact h
  have a2 : j ≤ n := by
    rcases Nat.lt_or_ge n j with h | h
    · exact absurd (nI_lt h hj) h2
    · exact h
  exact ⟨j - 1, by omega, by rw [Nat.sub_add_cancel a1]⟩
theorem isn_n1 {k : Int32} {n : Nat} (hn : n ≤ 64) (h1 : k < 1) : ∀ i, i < n → ¬ k = nI (i + 1) := by
  rintro i hi rfl
  exact nI_nlt (a := i + 1) (b := 1) (by omega) (by omega) h1
theorem isn_n2 {k : Int32} {n : Nat} (hn : n ≤ 64) (h1 : k > nI n) : ∀ i, i < n → ¬ k = nI (i + 1) := by
  rintro i hi rfl
  exact nI_nlt (a := n) (b := i + 1) (by omega) (by omega) h1
set_option maxHeartbeats 4000000 in
set_option maxRecDepth 100000 in
theorem ct_N_wants (l : Launch) (D : va_G) {n : Nat} (hn : 1 ≤ n ∧ n ≤ 64) (ad : Nat × Nat → Nat) (cN cB cL : ClassId) (σ : CS) {i : Nat} (hi : i < n) (sz : Nat) : Met l ky_N_wants (km ky_N_wants kc_N_wants 1 (some .boolean)) ({ frames := 0, cells := 0, slots := 0, locals := 0 }) (cPre D n ad cN cB cL σ [.ref (ad (3, i))] sz) (cQi D n ad cN cB cL sz (fun r τ => ((r = 1 ∧ wnt (σ.1 i)) ∨ (r = 0 ∧ ¬ wnt (σ.1 i))) ∧ σ = τ)) 0 0 (kA (kC n) ad sz) := by
  refine Met.ofW (cc := kc_N_wants) (maxL := 1) (ret := (some .boolean)) (by decide) rfl ?_
  intro p e s m args below meth c s₁ B hml hv
  obtain ⟨rfl, hsz, hP, hK, hD0⟩ := hv
  have hx := B.exec
  have hb := B.bytes
  have hr := B.returns
  have hts := atoms_spec (ws := km ky_N_wants kc_N_wants 1 (some .boolean)) B.pre
  have hT : ∀ w ∈ kB_l, w ∈ km ky_N_wants kc_N_wants 1 (some .boolean) := fun w h => List.mem_cons_of_mem _ h
  have hw := fun w h => hts w (hT w h)
  have hown : s.vm.findClass kR_N = some m.cls := findClass_of_methodNamed B.named
  have hlocks := B.notSynchronized
  subst hsz
  have hD : va_D (kA (kC n) ad s.heap.size) (kW (kC n) ad (gC n ad cN cB cL σ)) := kD_any _ hD0
  have hS : va_S (kA (kC n) ad s.heap.size) s.heap s.heap [] := va_S.rf
  have hl := lv_entry ([.ref (ad (3, i))]) (n := 1) (Nat.le_of_ble_eq_true rfl)
  rw [lg_entry_eq]
  generalize (lg_sl ([.ref (ad (3, i))]) ++ List.replicate (1 - (lg_sl ([.ref (ad (3, i))])).length) Slot.unset).toArray = ls at hl ⊢
  have hl : lv_has ls 1 [(0, .ref (ad (3, i)))] := hl
  refine lv_aload_n hx hb kd_N_wants_0 rfl (lv_at hl 0 rfl) ?_
  refine kx_get (ci := 1) (fs := nodeL ad i (σ.1 i)) (v := .int ((σ.1 i).2.2.2.2.1)) hx hb hw ki_N hown hK hP (kC_3 hi) rfl rfl 6 (by decide) kw_63 rfl rfl kd_N_wants_1 ?_
  refine lv_if_eq (tgt := 18) hx hb kd_N_wants_4 (by decide) (fun c_1 => ?_) (fun c_1 => ?_)
  · refine lv_iconst (v := 0) hx hb kd_N_wants_18 (by decide) ?_
    exact W.zret (v := 0) hx hb hr rfl (fun t ht hW => ⟨⟨0, σ, rfl, ⟨by simp [wnt, c_1], rfl⟩, by rw [ht]; exact hP, va_K.moved hW.alike hK, hD.weaken (fun _ _ _ _ => trivial)⟩, hS.F ht⟩) hS.2.2 kd_N_wants_19
  · refine lv_aload_n hx hb kd_N_wants_7 rfl (lv_at hl 0 rfl) ?_
    refine kx_get (ci := 1) (fs := nodeL ad i (σ.1 i)) (v := .int ((σ.1 i).2.2.2.2.2.1)) hx hb hw ki_N hown hK hP (kC_3 hi) rfl rfl 7 (by decide) kw_65 rfl rfl kd_N_wants_8 ?_
    refine lv_if_ne (tgt := 18) hx hb kd_N_wants_11 (by decide) (fun c_2 => ?_) (fun c_2 => ?_)
    · refine lv_iconst (v := 0) hx hb kd_N_wants_18 (by decide) ?_
      exact W.zret (v := 0) hx hb hr rfl (fun t ht hW => ⟨⟨0, σ, rfl, ⟨by simp [wnt, c_1, c_2], rfl⟩, by rw [ht]; exact hP, va_K.moved hW.alike hK, hD.weaken (fun _ _ _ _ => trivial)⟩, hS.F ht⟩) hS.2.2 kd_N_wants_19
    · refine lv_iconst (v := 1) hx hb kd_N_wants_14 (by decide) ?_
      refine lv_goto (tgt := 19) hx hb kd_N_wants_15 (by decide) ?_
      exact W.zret (v := 1) hx hb hr rfl (fun t ht hW => ⟨⟨1, σ, rfl, ⟨by simp [wnt, c_1, c_2], rfl⟩, by rw [ht]; exact hP, va_K.moved hW.alike hK, hD.weaken (fun _ _ _ _ => trivial)⟩, hS.F ht⟩) hS.2.2 kd_N_wants_19
set_option maxHeartbeats 4000000 in
set_option maxRecDepth 100000 in
theorem ct_N_keepsAwake (l : Launch) (D : va_G) {n : Nat} (hn : 1 ≤ n ∧ n ≤ 64) (ad : Nat × Nat → Nat) (cN cB cL : ClassId) (σ : CS) {i : Nat} (hi : i < n) (sz : Nat) : Met l ky_N_keepsAwake (km ky_N_keepsAwake kc_N_keepsAwake 1 (some .boolean)) ({ frames := 0, cells := 0, slots := 0, locals := 0 }) (cPre D n ad cN cB cL σ [.ref (ad (3, i))] sz) (cQi D n ad cN cB cL sz (fun r τ => ((r = 1 ∧ awk (σ.1 i).1) ∨ (r = 0 ∧ ¬ awk (σ.1 i).1)) ∧ σ = τ)) 0 0 (kA (kC n) ad sz) := by
  refine Met.ofW (cc := kc_N_keepsAwake) (maxL := 1) (ret := (some .boolean)) (by decide) rfl ?_
  intro p e s m args below meth c s₁ B hml hv
  obtain ⟨rfl, hsz, hP, hK, hD0⟩ := hv
  have hx := B.exec
  have hb := B.bytes
  have hr := B.returns
  have hts := atoms_spec (ws := km ky_N_keepsAwake kc_N_keepsAwake 1 (some .boolean)) B.pre
  have hT : ∀ w ∈ kB_l, w ∈ km ky_N_keepsAwake kc_N_keepsAwake 1 (some .boolean) := fun w h => List.mem_cons_of_mem _ h
  have hw := fun w h => hts w (hT w h)
  have hown : s.vm.findClass kR_N = some m.cls := findClass_of_methodNamed B.named
  have hlocks := B.notSynchronized
  subst hsz
  have hD : va_D (kA (kC n) ad s.heap.size) (kW (kC n) ad (gC n ad cN cB cL σ)) := kD_any _ hD0
  have hS : va_S (kA (kC n) ad s.heap.size) s.heap s.heap [] := va_S.rf
  have hl := lv_entry ([.ref (ad (3, i))]) (n := 1) (Nat.le_of_ble_eq_true rfl)
  rw [lg_entry_eq]
  generalize (lg_sl ([.ref (ad (3, i))]) ++ List.replicate (1 - (lg_sl ([.ref (ad (3, i))])).length) Slot.unset).toArray = ls at hl ⊢
  have hl : lv_has ls 1 [(0, .ref (ad (3, i)))] := hl
  refine lv_aload_n hx hb kd_N_keepsAwake_0 rfl (lv_at hl 0 rfl) ?_
  refine kx_get (ci := 1) (fs := nodeL ad i (σ.1 i)) (v := .int ((σ.1 i).1)) hx hb hw ki_N hown hK hP (kC_3 hi) rfl rfl 2 (by decide) kw_59 rfl rfl kd_N_keepsAwake_1 ?_
  refine lv_iconst (v := 4) hx hb kd_N_keepsAwake_4 (by decide) ?_
  refine lv_icmp_eq (tgt := 16) hx hb kd_N_keepsAwake_5 (by decide) (fun c_1 => ?_) (fun c_1 => ?_)
  · refine lv_iconst (v := 1) hx hb kd_N_keepsAwake_16 (by decide) ?_
    refine lv_goto (tgt := 21) hx hb kd_N_keepsAwake_17 (by decide) ?_
    exact W.zret (v := 1) hx hb hr rfl (fun t ht hW => ⟨⟨1, σ, rfl, ⟨by simp [awk, c_1], rfl⟩, by rw [ht]; exact hP, va_K.moved hW.alike hK, hD.weaken (fun _ _ _ _ => trivial)⟩, hS.F ht⟩) hS.2.2 kd_N_keepsAwake_21
  · refine lv_aload_n hx hb kd_N_keepsAwake_8 rfl (lv_at hl 0 rfl) ?_
    refine kx_get (ci := 1) (fs := nodeL ad i (σ.1 i)) (v := .int ((σ.1 i).1)) hx hb hw ki_N hown hK hP (kC_3 hi) rfl rfl 2 (by decide) kw_59 rfl rfl kd_N_keepsAwake_9 ?_
    refine lv_iconst (v := 3) hx hb kd_N_keepsAwake_12 (by decide) ?_
    refine lv_icmp_ne (tgt := 20) hx hb kd_N_keepsAwake_13 (by decide) (fun c_2 => ?_) (fun c_2 => ?_)
    · refine lv_iconst (v := 0) hx hb kd_N_keepsAwake_20 (by decide) ?_
      exact W.zret (v := 0) hx hb hr rfl (fun t ht hW => ⟨⟨0, σ, rfl, ⟨by simp [awk, c_1, c_2], rfl⟩, by rw [ht]; exact hP, va_K.moved hW.alike hK, hD.weaken (fun _ _ _ _ => trivial)⟩, hS.F ht⟩) hS.2.2 kd_N_keepsAwake_21
    · refine lv_iconst (v := 1) hx hb kd_N_keepsAwake_16 (by decide) ?_
      refine lv_goto (tgt := 21) hx hb kd_N_keepsAwake_17 (by decide) ?_
      exact W.zret (v := 1) hx hb hr rfl (fun t ht hW => ⟨⟨1, σ, rfl, ⟨by simp [awk, c_1, c_2], rfl⟩, by rw [ht]; exact hP, va_K.moved hW.alike hK, hD.weaken (fun _ _ _ _ => trivial)⟩, hS.F ht⟩) hS.2.2 kd_N_keepsAwake_21
set_option maxHeartbeats 4000000 in
set_option maxRecDepth 100000 in
theorem ct_N_canWake (l : Launch) (D : va_G) {n : Nat} (hn : 1 ≤ n ∧ n ≤ 64) (ad : Nat × Nat → Nat) (cN cB cL : ClassId) (σ : CS) {i : Nat} (hi : i < n) (sz : Nat) : Met l ky_N_canWake (km ky_N_canWake kc_N_canWake 1 (some .boolean)) ({ frames := 0, cells := 0, slots := 0, locals := 0 }) (cPre D n ad cN cB cL σ [.ref (ad (3, i))] sz) (cQi D n ad cN cB cL sz (fun r τ => ((r = 1 ∧ cwk (σ.1 i).1) ∨ (r = 0 ∧ ¬ cwk (σ.1 i).1)) ∧ σ = τ)) 0 0 (kA (kC n) ad sz) := by
  refine Met.ofW (cc := kc_N_canWake) (maxL := 1) (ret := (some .boolean)) (by decide) rfl ?_
  intro p e s m args below meth c s₁ B hml hv
  obtain ⟨rfl, hsz, hP, hK, hD0⟩ := hv
  have hx := B.exec
  have hb := B.bytes
  have hr := B.returns
  have hts := atoms_spec (ws := km ky_N_canWake kc_N_canWake 1 (some .boolean)) B.pre
  have hT : ∀ w ∈ kB_l, w ∈ km ky_N_canWake kc_N_canWake 1 (some .boolean) := fun w h => List.mem_cons_of_mem _ h
  have hw := fun w h => hts w (hT w h)
  have hown : s.vm.findClass kR_N = some m.cls := findClass_of_methodNamed B.named
  have hlocks := B.notSynchronized
  subst hsz
  have hD : va_D (kA (kC n) ad s.heap.size) (kW (kC n) ad (gC n ad cN cB cL σ)) := kD_any _ hD0
  have hS : va_S (kA (kC n) ad s.heap.size) s.heap s.heap [] := va_S.rf
  have hl := lv_entry ([.ref (ad (3, i))]) (n := 1) (Nat.le_of_ble_eq_true rfl)
  rw [lg_entry_eq]
  generalize (lg_sl ([.ref (ad (3, i))]) ++ List.replicate (1 - (lg_sl ([.ref (ad (3, i))])).length) Slot.unset).toArray = ls at hl ⊢
  have hl : lv_has ls 1 [(0, .ref (ad (3, i)))] := hl
  refine lv_aload_n hx hb kd_N_canWake_0 rfl (lv_at hl 0 rfl) ?_
  refine kx_get (ci := 1) (fs := nodeL ad i (σ.1 i)) (v := .int ((σ.1 i).1)) hx hb hw ki_N hown hK hP (kC_3 hi) rfl rfl 2 (by decide) kw_59 rfl rfl kd_N_canWake_1 ?_
  refine lv_if_eq (tgt := 15) hx hb kd_N_canWake_4 (by decide) (fun c_1 => ?_) (fun c_1 => ?_)
  · refine lv_iconst (v := 1) hx hb kd_N_canWake_15 (by decide) ?_
    refine lv_goto (tgt := 20) hx hb kd_N_canWake_16 (by decide) ?_
    exact W.zret (v := 1) hx hb hr rfl (fun t ht hW => ⟨⟨1, σ, rfl, ⟨by simp [cwk, c_1], rfl⟩, by rw [ht]; exact hP, va_K.moved hW.alike hK, hD.weaken (fun _ _ _ _ => trivial)⟩, hS.F ht⟩) hS.2.2 kd_N_canWake_20
  · refine lv_aload_n hx hb kd_N_canWake_7 rfl (lv_at hl 0 rfl) ?_
    refine kx_get (ci := 1) (fs := nodeL ad i (σ.1 i)) (v := .int ((σ.1 i).1)) hx hb hw ki_N hown hK hP (kC_3 hi) rfl rfl 2 (by decide) kw_59 rfl rfl kd_N_canWake_8 ?_
    refine lv_iconst (v := 1) hx hb kd_N_canWake_11 (by decide) ?_
    refine lv_icmp_ne (tgt := 19) hx hb kd_N_canWake_12 (by decide) (fun c_2 => ?_) (fun c_2 => ?_)
    · refine lv_iconst (v := 0) hx hb kd_N_canWake_19 (by decide) ?_
      exact W.zret (v := 0) hx hb hr rfl (fun t ht hW => ⟨⟨0, σ, rfl, ⟨by simp [cwk, c_1, c_2], rfl⟩, by rw [ht]; exact hP, va_K.moved hW.alike hK, hD.weaken (fun _ _ _ _ => trivial)⟩, hS.F ht⟩) hS.2.2 kd_N_canWake_20
    · refine lv_iconst (v := 1) hx hb kd_N_canWake_15 (by decide) ?_
      refine lv_goto (tgt := 20) hx hb kd_N_canWake_16 (by decide) ?_
      exact W.zret (v := 1) hx hb hr rfl (fun t ht hW => ⟨⟨1, σ, rfl, ⟨by simp [cwk, c_1, c_2], rfl⟩, by rw [ht]; exact hP, va_K.moved hW.alike hK, hD.weaken (fun _ _ _ _ => trivial)⟩, hS.F ht⟩) hS.2.2 kd_N_canWake_20
set_option maxHeartbeats 4000000 in
set_option maxRecDepth 100000 in
theorem ct_S_isNode (l : Launch) (D : va_G) {n : Nat} (hn : 1 ≤ n ∧ n ≤ 64) (ad : Nat × Nat → Nat) (cN cB cL : ClassId) (σ : CS) (k : Int32) (sz : Nat) : Met l ky_S_isNode (km ky_S_isNode kc_S_isNode 2 (some .boolean)) ({ frames := 0, cells := 0, slots := 0, locals := 0 }) (cPre D n ad cN cB cL σ [.ref (ad (0, 0)), .int k] sz) (cQi D n ad cN cB cL sz (fun r τ => ((r = 1 ∧ ∃ i, i < n ∧ k = nI (i + 1)) ∨ (r = 0 ∧ ∀ i, i < n → ¬ k = nI (i + 1))) ∧ σ = τ)) 0 0 (kA (kC n) ad sz) := by
  refine Met.ofW (cc := kc_S_isNode) (maxL := 2) (ret := (some .boolean)) (by decide) rfl ?_
  intro p e s m args below meth c s₁ B hml hv
  obtain ⟨rfl, hsz, hP, hK, hD0⟩ := hv
  have hx := B.exec
  have hb := B.bytes
  have hr := B.returns
  have hts := atoms_spec (ws := km ky_S_isNode kc_S_isNode 2 (some .boolean)) B.pre
  have hT : ∀ w ∈ kB_l, w ∈ km ky_S_isNode kc_S_isNode 2 (some .boolean) := fun w h => List.mem_cons_of_mem _ h
  have hw := fun w h => hts w (hT w h)
  have hown : s.vm.findClass kR_S = some m.cls := findClass_of_methodNamed B.named
  have hlocks := B.notSynchronized
  subst hsz
  have hD : va_D (kA (kC n) ad s.heap.size) (kW (kC n) ad (gC n ad cN cB cL σ)) := kD_any _ hD0
  have hS : va_S (kA (kC n) ad s.heap.size) s.heap s.heap [] := va_S.rf
  have hl := lv_entry ([.ref (ad (0, 0)), .int k]) (n := 2) (Nat.le_of_ble_eq_true rfl)
  rw [lg_entry_eq]
  generalize (lg_sl ([.ref (ad (0, 0)), .int k]) ++ List.replicate (2 - (lg_sl ([.ref (ad (0, 0)), .int k])).length) Slot.unset).toArray = ls at hl ⊢
  have hl : lv_has ls 2 [(0, .ref (ad (0, 0))), (1, .int k)] := hl
  refine lv_iload_n hx hb kd_S_isNode_0 rfl (lv_at hl 1 rfl) ?_
  refine lv_iconst (v := 1) hx hb kd_S_isNode_1 (by decide) ?_
  refine lv_icmp_lt (tgt := 18) hx hb kd_S_isNode_2 (by decide) (fun c_1 => ?_) (fun c_1 => ?_)
  · refine lv_iconst (v := 0) hx hb kd_S_isNode_18 (by decide) ?_
    exact W.zret (v := 0) hx hb hr rfl (fun t ht hW => ⟨⟨0, σ, rfl, ⟨Or.inr ⟨rfl, isn_n1 hn.2 c_1⟩, rfl⟩, by rw [ht]; exact hP, va_K.moved hW.alike hK, hD.weaken (fun _ _ _ _ => trivial)⟩, hS.F ht⟩) hS.2.2 kd_S_isNode_19
  · refine lv_iload_n hx hb kd_S_isNode_5 rfl (lv_at hl 1 rfl) ?_
    refine lv_aload_n hx hb kd_S_isNode_6 rfl (lv_at hl 0 rfl) ?_
    refine kx_get (ci := 2) (fs := thisL ad σ) (v := .ref (ad (1, 0))) hx hb hw ki_S hown hK hP kC_0 rfl rfl 0 (by decide) kw_90 rfl rfl kd_S_isNode_7 ?_
    refine kx_alen (n := n) hx hb hK hP kC_1 0 rfl rfl kd_S_isNode_10 ?_
    refine lv_icmp_gt (tgt := 18) hx hb kd_S_isNode_11 (by decide) (fun c_2 => ?_) (fun c_2 => ?_)
    · refine lv_iconst (v := 0) hx hb kd_S_isNode_18 (by decide) ?_
      exact W.zret (v := 0) hx hb hr rfl (fun t ht hW => ⟨⟨0, σ, rfl, ⟨Or.inr ⟨rfl, isn_n2 hn.2 c_2⟩, rfl⟩, by rw [ht]; exact hP, va_K.moved hW.alike hK, hD.weaken (fun _ _ _ _ => trivial)⟩, hS.F ht⟩) hS.2.2 kd_S_isNode_19
    · refine lv_iconst (v := 1) hx hb kd_S_isNode_14 (by decide) ?_
      refine lv_goto (tgt := 19) hx hb kd_S_isNode_15 (by decide) ?_
      exact W.zret (v := 1) hx hb hr rfl (fun t ht hW => ⟨⟨1, σ, rfl, ⟨Or.inl ⟨rfl, isn_y hn.2 c_1 c_2⟩, rfl⟩, by rw [ht]; exact hP, va_K.moved hW.alike hK, hD.weaken (fun _ _ _ _ => trivial)⟩, hS.F ht⟩) hS.2.2 kd_S_isNode_19
set_option maxHeartbeats 4000000 in
set_option maxRecDepth 100000 in
theorem ct_S_isBus (l : Launch) (D : va_G) {n : Nat} (hn : 1 ≤ n ∧ n ≤ 64) (ad : Nat × Nat → Nat) (cN cB cL : ClassId) (σ : CS) (k : Int32) (sz : Nat) : Met l ky_S_isBus (km ky_S_isBus kc_S_isBus 2 (some .boolean)) ({ frames := 0, cells := 0, slots := 0, locals := 0 }) (cPre D n ad cN cB cL σ [.ref (ad (0, 0)), .int k] sz) (cQi D n ad cN cB cL sz (fun r τ => ((r = 1 ∧ ∃ i, i < nbs n ∧ k = nI (i + 1)) ∨ (r = 0 ∧ ∀ i, i < nbs n → ¬ k = nI (i + 1))) ∧ σ = τ)) 0 0 (kA (kC n) ad sz) := by
  refine Met.ofW (cc := kc_S_isBus) (maxL := 2) (ret := (some .boolean)) (by decide) rfl ?_
  intro p e s m args below meth c s₁ B hml hv
  obtain ⟨rfl, hsz, hP, hK, hD0⟩ := hv
  have hx := B.exec
  have hb := B.bytes
  have hr := B.returns
  have hts := atoms_spec (ws := km ky_S_isBus kc_S_isBus 2 (some .boolean)) B.pre
  have hT : ∀ w ∈ kB_l, w ∈ km ky_S_isBus kc_S_isBus 2 (some .boolean) := fun w h => List.mem_cons_of_mem _ h
  have hw := fun w h => hts w (hT w h)
  have hown : s.vm.findClass kR_S = some m.cls := findClass_of_methodNamed B.named
  have hlocks := B.notSynchronized
  subst hsz
  have hD : va_D (kA (kC n) ad s.heap.size) (kW (kC n) ad (gC n ad cN cB cL σ)) := kD_any _ hD0
  have hS : va_S (kA (kC n) ad s.heap.size) s.heap s.heap [] := va_S.rf
  have hl := lv_entry ([.ref (ad (0, 0)), .int k]) (n := 2) (Nat.le_of_ble_eq_true rfl)
  rw [lg_entry_eq]
  generalize (lg_sl ([.ref (ad (0, 0)), .int k]) ++ List.replicate (2 - (lg_sl ([.ref (ad (0, 0)), .int k])).length) Slot.unset).toArray = ls at hl ⊢
  have hl : lv_has ls 2 [(0, .ref (ad (0, 0))), (1, .int k)] := hl
  refine lv_iload_n hx hb kd_S_isBus_0 rfl (lv_at hl 1 rfl) ?_
  refine lv_iconst (v := 1) hx hb kd_S_isBus_1 (by decide) ?_
  refine lv_icmp_lt (tgt := 18) hx hb kd_S_isBus_2 (by decide) (fun c_1 => ?_) (fun c_1 => ?_)
  · refine lv_iconst (v := 0) hx hb kd_S_isBus_18 (by decide) ?_
    exact W.zret (v := 0) hx hb hr rfl (fun t ht hW => ⟨⟨0, σ, rfl, ⟨Or.inr ⟨rfl, isn_n1 (by unfold nbs; omega) c_1⟩, rfl⟩, by rw [ht]; exact hP, va_K.moved hW.alike hK, hD.weaken (fun _ _ _ _ => trivial)⟩, hS.F ht⟩) hS.2.2 kd_S_isBus_19
  · refine lv_iload_n hx hb kd_S_isBus_5 rfl (lv_at hl 1 rfl) ?_
    refine lv_aload_n hx hb kd_S_isBus_6 rfl (lv_at hl 0 rfl) ?_
    refine kx_get (ci := 2) (fs := thisL ad σ) (v := .ref (ad (2, 0))) hx hb hw ki_S hown hK hP kC_0 rfl rfl 1 (by decide) kw_91 rfl rfl kd_S_isBus_7 ?_
    refine kx_alen (n := nbs n) hx hb hK hP kC_2 1 rfl rfl kd_S_isBus_10 ?_
    refine lv_icmp_gt (tgt := 18) hx hb kd_S_isBus_11 (by decide) (fun c_2 => ?_) (fun c_2 => ?_)
    · refine lv_iconst (v := 0) hx hb kd_S_isBus_18 (by decide) ?_
      exact W.zret (v := 0) hx hb hr rfl (fun t ht hW => ⟨⟨0, σ, rfl, ⟨Or.inr ⟨rfl, isn_n2 (by unfold nbs; omega) c_2⟩, rfl⟩, by rw [ht]; exact hP, va_K.moved hW.alike hK, hD.weaken (fun _ _ _ _ => trivial)⟩, hS.F ht⟩) hS.2.2 kd_S_isBus_19
    · refine lv_iconst (v := 1) hx hb kd_S_isBus_14 (by decide) ?_
      refine lv_goto (tgt := 19) hx hb kd_S_isBus_15 (by decide) ?_
      exact W.zret (v := 1) hx hb hr rfl (fun t ht hW => ⟨⟨1, σ, rfl, ⟨Or.inl ⟨rfl, isn_y (by unfold nbs; omega) c_1 c_2⟩, rfl⟩, by rw [ht]; exact hP, va_K.moved hW.alike hK, hD.weaken (fun _ _ _ _ => trivial)⟩, hS.F ht⟩) hS.2.2 kd_S_isBus_19
set_option maxHeartbeats 4000000 in
set_option maxRecDepth 100000 in
theorem ct_S_isTime (l : Launch) (D : va_G) {n : Nat} (hn : 1 ≤ n ∧ n ≤ 64) (ad : Nat × Nat → Nat) (cN cB cL : ClassId) (σ : CS) (t : Int64) (sz : Nat) : Met l ky_S_isTime (km ky_S_isTime kc_S_isTime 3 (some .boolean)) ({ frames := 0, cells := 0, slots := 0, locals := 0 }) (cPre D n ad cN cB cL σ [.ref (ad (0, 0)), .long t] sz) (cQi D n ad cN cB cL sz (fun r τ => ((r = 1 ∧ okT σ.2.2.1 t) ∨ (r = 0 ∧ ¬ okT σ.2.2.1 t)) ∧ σ = τ)) 0 0 (kA (kC n) ad sz) := by
  refine Met.ofW (cc := kc_S_isTime) (maxL := 3) (ret := (some .boolean)) (by decide) rfl ?_
  intro p e s m args below meth c s₁ B hml hv
  obtain ⟨rfl, hsz, hP, hK, hD0⟩ := hv
  have hx := B.exec
  have hb := B.bytes
  have hr := B.returns
  have hts := atoms_spec (ws := km ky_S_isTime kc_S_isTime 3 (some .boolean)) B.pre
  have hT : ∀ w ∈ kB_l, w ∈ km ky_S_isTime kc_S_isTime 3 (some .boolean) := fun w h => List.mem_cons_of_mem _ h
  have hw := fun w h => hts w (hT w h)
  have hown : s.vm.findClass kR_S = some m.cls := findClass_of_methodNamed B.named
  have hlocks := B.notSynchronized
  subst hsz
  have hD : va_D (kA (kC n) ad s.heap.size) (kW (kC n) ad (gC n ad cN cB cL σ)) := kD_any _ hD0
  have hS : va_S (kA (kC n) ad s.heap.size) s.heap s.heap [] := va_S.rf
  have hl := lv_entry ([.ref (ad (0, 0)), .long t]) (n := 3) (Nat.le_of_ble_eq_true rfl)
  rw [lg_entry_eq]
  generalize (lg_sl ([.ref (ad (0, 0)), .long t]) ++ List.replicate (3 - (lg_sl ([.ref (ad (0, 0)), .long t])).length) Slot.unset).toArray = ls at hl ⊢
  have hl : lv_has ls 3 [(0, .ref (ad (0, 0))), (1, .long t)] := hl
  refine lv_lload_n hx hb kd_S_isTime_0 rfl (lv_at hl 1 rfl) ?_
  refine lv_aload_n hx hb kd_S_isTime_1 rfl (lv_at hl 0 rfl) ?_
  refine kx_get (ci := 2) (fs := thisL ad σ) (v := .long σ.2.2.1) hx hb hw ki_S hown hK hP kC_0 rfl rfl 2 (by decide) kw_92 rfl rfl kd_S_isTime_2 ?_
  refine W.lcmp hx hb kd_S_isTime_5 ?_
  refine lv_if_lt (tgt := 26) hx hb kd_S_isTime_6 (by decide) (fun c_1 => ?_) (fun c_1 => ?_)
  · have c_1 := (lg_cmp_lt _ _).mp c_1
    refine lv_iconst (v := 0) hx hb kd_S_isTime_26 (by decide) ?_
    exact W.zret (v := 0) hx hb hr rfl (fun t ht hW => ⟨⟨0, σ, rfl, ⟨by simp [okT, c_1], rfl⟩, by rw [ht]; exact hP, va_K.moved hW.alike hK, hD.weaken (fun _ _ _ _ => trivial)⟩, hS.F ht⟩) hS.2.2 kd_S_isTime_27
  · have c_1 := fun h => c_1 ((lg_cmp_lt _ _).mpr h)
    refine lv_lload_n hx hb kd_S_isTime_9 rfl (lv_at hl 1 rfl) ?_
    refine lv_aload_n hx hb kd_S_isTime_10 rfl (lv_at hl 0 rfl) ?_
    refine kx_get (ci := 2) (fs := thisL ad σ) (v := .long σ.2.2.1) hx hb hw ki_S hown hK hP kC_0 rfl rfl 2 (by decide) kw_92 rfl rfl kd_S_isTime_11 ?_
    refine lv_lsub hx hb kd_S_isTime_14 ?_
    refine lv_ldc2 (v := 1000) hx hb hown (hw _ kw_139) kd_S_isTime_15 ?_
    refine W.lcmp hx hb kd_S_isTime_18 ?_
    refine lv_if_gt (tgt := 26) hx hb kd_S_isTime_19 (by decide) (fun c_2 => ?_) (fun c_2 => ?_)
    · have c_2 := (lg_cmp_gt _ _).mp c_2
      refine lv_iconst (v := 0) hx hb kd_S_isTime_26 (by decide) ?_
      exact W.zret (v := 0) hx hb hr rfl (fun t ht hW => ⟨⟨0, σ, rfl, ⟨by simp [okT, c_1, c_2], rfl⟩, by rw [ht]; exact hP, va_K.moved hW.alike hK, hD.weaken (fun _ _ _ _ => trivial)⟩, hS.F ht⟩) hS.2.2 kd_S_isTime_27
    · have c_2 := fun h => c_2 ((lg_cmp_gt _ _).mpr h)
      refine lv_iconst (v := 1) hx hb kd_S_isTime_22 (by decide) ?_
      refine lv_goto (tgt := 27) hx hb kd_S_isTime_23 (by decide) ?_
      exact W.zret (v := 1) hx hb hr rfl (fun t ht hW => ⟨⟨1, σ, rfl, ⟨Or.inl ⟨rfl, c_1, c_2⟩, rfl⟩, by rw [ht]; exact hP, va_K.moved hW.alike hK, hD.weaken (fun _ _ _ _ => trivial)⟩, hS.F ht⟩) hS.2.2 kd_S_isTime_27
/-- comeTo: the node's state, SINCE, and its bus's count of those that keep awake -/
def cmT (σ : CS) (i : Nat) (x : Int32) : CS :=
  let s1 : CS := if awk (σ.1 i).1 then setB σ (i / 8) ((σ.2.1 (i / 8)).1, (σ.2.1 (i / 8)).2.1 - 1, (σ.2.1 (i / 8)).2.2) else σ
  let s2 : CS := setN s1 i (x, (s1.1 i).2.1, (s1.1 i).2.2.1, (s1.1 i).2.2.2.1, (s1.1 i).2.2.2.2.1, (s1.1 i).2.2.2.2.2.1, (s1.1 i).2.2.2.2.2.2.1, (s1.1 i).2.2.2.2.2.2.2)
  let s3 : CS := setN s2 i ((s2.1 i).1, s2.2.2.1, (s2.1 i).2.2.1, (s2.1 i).2.2.2.1, (s2.1 i).2.2.2.2.1, (s2.1 i).2.2.2.2.2.1, (s2.1 i).2.2.2.2.2.2.1, (s2.1 i).2.2.2.2.2.2.2)
  let s4 : CS := if awk (s3.1 i).1 then setB s3 (i / 8) ((s3.2.1 (i / 8)).1, (s3.2.1 (i / 8)).2.1 + 1, (s3.2.1 (i / 8)).2.2) else s3
  (s4.1, s4.2.1, s4.2.2.1, s4.2.2.2 + 1)
set_option maxHeartbeats 4000000 in
set_option maxRecDepth 100000 in
theorem ct_S_comeTo (l : Launch) (D : va_G) {n : Nat} (hn : 1 ≤ n ∧ n ≤ 64) (ad : Nat × Nat → Nat) (cN cB cL : ClassId) (σ : CS) {i : Nat} (hi : i < n) (x : Int32) (sz : Nat) : Met l ky_S_comeTo (km ky_S_comeTo kc_S_comeTo 3 none) ({ frames := 1, cells := 0, slots := 0, locals := 20 }) (cPre D n ad cN cB cL σ [.ref (ad (0, 0)), .ref (ad (3, i)), .int x] sz) (cQv D n ad cN cB cL sz (fun τ => cmT σ i x = τ)) 0 0 (kA (kC n) ad sz) := by
  refine Met.ofW (cc := kc_S_comeTo) (maxL := 3) (ret := none) (by decide) rfl ?_
  intro p e s m args below meth c s₁ B hml hv
  obtain ⟨rfl, hsz, hP, hK, hD0⟩ := hv
  have hx := B.exec
  have hb := B.bytes
  have hr := B.returns
  have hts := atoms_spec (ws := km ky_S_comeTo kc_S_comeTo 3 none) B.pre
  have hT : ∀ w ∈ kB_l, w ∈ km ky_S_comeTo kc_S_comeTo 3 none := fun w h => List.mem_cons_of_mem _ h
  have hw := fun w h => hts w (hT w h)
  have hown : s.vm.findClass kR_S = some m.cls := findClass_of_methodNamed B.named
  have hlocks := B.notSynchronized
  subst hsz
  have hD : va_D (kA (kC n) ad s.heap.size) (kW (kC n) ad (gC n ad cN cB cL σ)) := kD_any _ hD0
  have hS : va_S (kA (kC n) ad s.heap.size) s.heap s.heap [] := va_S.rf
  have hl := lv_entry ([.ref (ad (0, 0)), .ref (ad (3, i)), .int x]) (n := 3) (Nat.le_of_ble_eq_true rfl)
  rw [lg_entry_eq]
  generalize (lg_sl ([.ref (ad (0, 0)), .ref (ad (3, i)), .int x]) ++ List.replicate (3 - (lg_sl ([.ref (ad (0, 0)), .ref (ad (3, i)), .int x])).length) Slot.unset).toArray = ls at hl ⊢
  have hl : lv_has ls 3 [(0, .ref (ad (0, 0))), (1, .ref (ad (3, i))), (2, .int x)] := hl
  refine lv_aload_n hx hb kd_S_comeTo_0 rfl (lv_at hl 1 rfl) ?_
  refine kx_Vi (G := gC n ad cN cB cL) (σ := σ) (κ := (3, i)) (ci := 1) (fs := nodeL ad i (σ.1 i)) (As := []) (rest := []) (n := 0) hx hb hml hown hts hT (ct_N_keepsAwake l D hn ad cN cB cL σ hi s.heap.size) kw_127 kw_128 kw_129 kw_4 kw_130 (by decide +kernel) ⟨rfl, rfl⟩ ⟨Nat.le_of_ble_eq_true rfl, Nat.le_of_ble_eq_true rfl⟩ hK hP hD hS (kC_3 hi) rfl rfl rfl hl.1 (Nat.le_of_ble_eq_true rfl) kd_S_comeTo_1 rfl ⟨Nat.zero_le _, Nat.zero_le _⟩ (fun r_1 τ2 H locs hq3 hP hD hS => ?_)
  obtain ⟨⟨rfl, q_4⟩ | ⟨rfl, q_4⟩, rfl⟩ := hq3
  · refine lv_if_eq (tgt := 20) hx hb kd_S_comeTo_4 (by decide) (fun c0 => absurd c0 (by decide)) (fun _ => ?_)
    refine lv_aload_n hx hb kd_S_comeTo_7 rfl (lv_at hl 1 rfl) ?_
    refine kx_get (ci := 1) (fs := nodeL ad i (σ.1 i)) (v := .ref (ad (4, i / 8))) hx hb hw ki_N hown hK hP (kC_3 hi) rfl rfl 1 (by decide) kw_57 rfl rfl kd_S_comeTo_8 ?_
    refine lv_dup hx hb kd_S_comeTo_11 rfl ?_
    refine kx_get (ci := 0) (fs := busL ad (i / 8) (σ.2.1 (i / 8))) (v := .int ((σ.2.1 (i / 8)).2.1)) hx hb hw ki_B hown hK hP (kC_4 (nbs_of hi)) rfl rfl 3 (by decide) kw_38 rfl rfl kd_S_comeTo_12 ?_
    refine lv_iconst (v := 1) hx hb kd_S_comeTo_15 (by decide) ?_
    refine lv_isub hx hb kd_S_comeTo_16 ?_
    refine kx_put (ci := 0) (fs := busL ad (i / 8) (σ.2.1 (i / 8))) (v := .int (((σ.2.1 (i / 8)).2.1) - 1)) (g2 := gC n ad cN cB cL (setB σ (i / 8) ((σ.2.1 (i / 8)).1, ((σ.2.1 (i / 8)).2.1) - 1, (σ.2.1 (i / 8)).2.2))) hx hb hw ki_B kt_B ko_B kn_B hown hK hP hD hS (kC_4 (nbs_of hi)) rfl rfl 3 (by decide) kw_38 rfl rfl rfl rfl (Nat.le_of_ble_eq_true rfl) (gC_B rfl) kd_S_comeTo_17 (fun H locs hP hD hS => ?_)
    generalize hτ5 : setB σ (i / 8) ((σ.2.1 (i / 8)).1, ((σ.2.1 (i / 8)).2.1) - 1, (σ.2.1 (i / 8)).2.2) = τ5 at hP hD
    refine lv_aload_n hx hb kd_S_comeTo_20 rfl (lv_at hl 1 rfl) ?_
    refine lv_iload_n hx hb kd_S_comeTo_21 rfl (lv_at hl 2 rfl) ?_
    refine kx_put (ci := 1) (fs := nodeL ad i (τ5.1 i)) (v := .int x) (g2 := gC n ad cN cB cL (setN τ5 i (x, (τ5.1 i).2.1, (τ5.1 i).2.2.1, (τ5.1 i).2.2.2.1, (τ5.1 i).2.2.2.2.1, (τ5.1 i).2.2.2.2.2.1, (τ5.1 i).2.2.2.2.2.2.1, (τ5.1 i).2.2.2.2.2.2.2))) hx hb hw ki_N kt_N ko_N kn_N hown hK hP hD hS (kC_3 hi) rfl rfl 2 (by decide) kw_58 rfl rfl rfl rfl (Nat.le_of_ble_eq_true rfl) (gC_N rfl) kd_S_comeTo_22 (fun H locs hP hD hS => ?_)
    generalize hτ6 : setN τ5 i (x, (τ5.1 i).2.1, (τ5.1 i).2.2.1, (τ5.1 i).2.2.2.1, (τ5.1 i).2.2.2.2.1, (τ5.1 i).2.2.2.2.2.1, (τ5.1 i).2.2.2.2.2.2.1, (τ5.1 i).2.2.2.2.2.2.2) = τ6 at hP hD
    refine lv_aload_n hx hb kd_S_comeTo_25 rfl (lv_at hl 1 rfl) ?_
    refine lv_aload_n hx hb kd_S_comeTo_26 rfl (lv_at hl 0 rfl) ?_
    refine kx_get (ci := 2) (fs := thisL ad τ6) (v := .long τ6.2.2.1) hx hb hw ki_S hown hK hP kC_0 rfl rfl 2 (by decide) kw_92 rfl rfl kd_S_comeTo_27 ?_
    refine kx_put (ci := 1) (fs := nodeL ad i (τ6.1 i)) (v := .long τ6.2.2.1) (g2 := gC n ad cN cB cL (setN τ6 i ((τ6.1 i).1, τ6.2.2.1, (τ6.1 i).2.2.1, (τ6.1 i).2.2.2.1, (τ6.1 i).2.2.2.2.1, (τ6.1 i).2.2.2.2.2.1, (τ6.1 i).2.2.2.2.2.2.1, (τ6.1 i).2.2.2.2.2.2.2))) hx hb hw ki_N kt_N ko_N kn_N hown hK hP hD hS (kC_3 hi) rfl rfl 3 (by decide) kw_60 rfl rfl rfl rfl (Nat.le_of_ble_eq_true rfl) (gC_N rfl) kd_S_comeTo_30 (fun H locs hP hD hS => ?_)
    generalize hτ7 : setN τ6 i ((τ6.1 i).1, τ6.2.2.1, (τ6.1 i).2.2.1, (τ6.1 i).2.2.2.1, (τ6.1 i).2.2.2.2.1, (τ6.1 i).2.2.2.2.2.1, (τ6.1 i).2.2.2.2.2.2.1, (τ6.1 i).2.2.2.2.2.2.2) = τ7 at hP hD
    refine lv_aload_n hx hb kd_S_comeTo_33 rfl (lv_at hl 1 rfl) ?_
    refine kx_Vi (G := gC n ad cN cB cL) (σ := τ7) (κ := (3, i)) (ci := 1) (fs := nodeL ad i (τ7.1 i)) (As := []) (rest := []) (n := 0) hx hb hml hown hts hT (ct_N_keepsAwake l D hn ad cN cB cL τ7 hi H.size) kw_127 kw_128 kw_129 kw_4 kw_130 (by decide +kernel) ⟨rfl, rfl⟩ ⟨Nat.le_of_ble_eq_true rfl, Nat.le_of_ble_eq_true rfl⟩ hK hP hD hS (kC_3 hi) rfl rfl rfl hl.1 (Nat.le_of_ble_eq_true rfl) kd_S_comeTo_34 rfl ⟨Nat.zero_le _, Nat.zero_le _⟩ (fun r_8 τ9 H locs hq10 hP hD hS => ?_)
    obtain ⟨⟨rfl, q_11⟩ | ⟨rfl, q_11⟩, rfl⟩ := hq10
    · refine lv_if_eq (tgt := 53) hx hb kd_S_comeTo_37 (by decide) (fun c0 => absurd c0 (by decide)) (fun _ => ?_)
      refine lv_aload_n hx hb kd_S_comeTo_40 rfl (lv_at hl 1 rfl) ?_
      refine kx_get (ci := 1) (fs := nodeL ad i (τ7.1 i)) (v := .ref (ad (4, i / 8))) hx hb hw ki_N hown hK hP (kC_3 hi) rfl rfl 1 (by decide) kw_57 rfl rfl kd_S_comeTo_41 ?_
      refine lv_dup hx hb kd_S_comeTo_44 rfl ?_
      refine kx_get (ci := 0) (fs := busL ad (i / 8) (τ7.2.1 (i / 8))) (v := .int ((τ7.2.1 (i / 8)).2.1)) hx hb hw ki_B hown hK hP (kC_4 (nbs_of hi)) rfl rfl 3 (by decide) kw_38 rfl rfl kd_S_comeTo_45 ?_
      refine lv_iconst (v := 1) hx hb kd_S_comeTo_48 (by decide) ?_
      refine lv_iadd hx hb kd_S_comeTo_49 ?_
      refine kx_put (ci := 0) (fs := busL ad (i / 8) (τ7.2.1 (i / 8))) (v := .int (((τ7.2.1 (i / 8)).2.1) + 1)) (g2 := gC n ad cN cB cL (setB τ7 (i / 8) ((τ7.2.1 (i / 8)).1, ((τ7.2.1 (i / 8)).2.1) + 1, (τ7.2.1 (i / 8)).2.2))) hx hb hw ki_B kt_B ko_B kn_B hown hK hP hD hS (kC_4 (nbs_of hi)) rfl rfl 3 (by decide) kw_38 rfl rfl rfl rfl (Nat.le_of_ble_eq_true rfl) (gC_B rfl) kd_S_comeTo_50 (fun H locs hP hD hS => ?_)
      generalize hτ12 : setB τ7 (i / 8) ((τ7.2.1 (i / 8)).1, ((τ7.2.1 (i / 8)).2.1) + 1, (τ7.2.1 (i / 8)).2.2) = τ12 at hP hD
      refine lv_aload_n hx hb kd_S_comeTo_53 rfl (lv_at hl 0 rfl) ?_
      refine lv_dup hx hb kd_S_comeTo_54 rfl ?_
      refine kx_get (ci := 2) (fs := thisL ad τ12) (v := .int τ12.2.2.2) hx hb hw ki_S hown hK hP kC_0 rfl rfl 3 (by decide) kw_93 rfl rfl kd_S_comeTo_55 ?_
      refine lv_iconst (v := 1) hx hb kd_S_comeTo_58 (by decide) ?_
      refine lv_iadd hx hb kd_S_comeTo_59 ?_
      refine kx_put (ci := 2) (fs := thisL ad τ12) (v := .int (τ12.2.2.2 + 1)) (g2 := gC n ad cN cB cL ((τ12.1, τ12.2.1, τ12.2.2.1, τ12.2.2.2 + 1))) hx hb hw ki_S kt_S ko_S kn_S hown hK hP hD hS kC_0 rfl rfl 3 (by decide) kw_93 rfl rfl rfl rfl (Nat.le_of_ble_eq_true rfl) (gC_S rfl) kd_S_comeTo_60 (fun H locs hP hD hS => ?_)
      generalize hτ13 : (τ12.1, τ12.2.1, τ12.2.2.1, τ12.2.2.2 + 1) = τ13 at hP hD
      exact W.vret hx hb hr (fun t ht hW => ⟨⟨τ13, rfl, by subst hτ5; subst hτ6; subst hτ7; subst hτ12; subst hτ13; simp only [cmT, if_pos q_4, if_pos q_11], by rw [ht]; exact hP, va_K.moved hW.alike hK, hD.weaken (fun _ _ _ _ => trivial)⟩, hS.F ht⟩) hS.2.2 kd_S_comeTo_63
    · refine lv_if_eq (tgt := 53) hx hb kd_S_comeTo_37 (by decide) (fun _ => ?_) (fun c0 => absurd (by decide) c0)
      refine lv_aload_n hx hb kd_S_comeTo_53 rfl (lv_at hl 0 rfl) ?_
      refine lv_dup hx hb kd_S_comeTo_54 rfl ?_
      refine kx_get (ci := 2) (fs := thisL ad τ7) (v := .int τ7.2.2.2) hx hb hw ki_S hown hK hP kC_0 rfl rfl 3 (by decide) kw_93 rfl rfl kd_S_comeTo_55 ?_
      refine lv_iconst (v := 1) hx hb kd_S_comeTo_58 (by decide) ?_
      refine lv_iadd hx hb kd_S_comeTo_59 ?_
      refine kx_put (ci := 2) (fs := thisL ad τ7) (v := .int (τ7.2.2.2 + 1)) (g2 := gC n ad cN cB cL ((τ7.1, τ7.2.1, τ7.2.2.1, τ7.2.2.2 + 1))) hx hb hw ki_S kt_S ko_S kn_S hown hK hP hD hS kC_0 rfl rfl 3 (by decide) kw_93 rfl rfl rfl rfl (Nat.le_of_ble_eq_true rfl) (gC_S rfl) kd_S_comeTo_60 (fun H locs hP hD hS => ?_)
      generalize hτ14 : (τ7.1, τ7.2.1, τ7.2.2.1, τ7.2.2.2 + 1) = τ14 at hP hD
      exact W.vret hx hb hr (fun t ht hW => ⟨⟨τ14, rfl, by subst hτ5; subst hτ6; subst hτ7; subst hτ14; simp only [cmT, if_pos q_4, if_neg q_11], by rw [ht]; exact hP, va_K.moved hW.alike hK, hD.weaken (fun _ _ _ _ => trivial)⟩, hS.F ht⟩) hS.2.2 kd_S_comeTo_63
  · refine lv_if_eq (tgt := 20) hx hb kd_S_comeTo_4 (by decide) (fun _ => ?_) (fun c0 => absurd (by decide) c0)
    refine lv_aload_n hx hb kd_S_comeTo_20 rfl (lv_at hl 1 rfl) ?_
    refine lv_iload_n hx hb kd_S_comeTo_21 rfl (lv_at hl 2 rfl) ?_
    refine kx_put (ci := 1) (fs := nodeL ad i (σ.1 i)) (v := .int x) (g2 := gC n ad cN cB cL (setN σ i (x, (σ.1 i).2.1, (σ.1 i).2.2.1, (σ.1 i).2.2.2.1, (σ.1 i).2.2.2.2.1, (σ.1 i).2.2.2.2.2.1, (σ.1 i).2.2.2.2.2.2.1, (σ.1 i).2.2.2.2.2.2.2))) hx hb hw ki_N kt_N ko_N kn_N hown hK hP hD hS (kC_3 hi) rfl rfl 2 (by decide) kw_58 rfl rfl rfl rfl (Nat.le_of_ble_eq_true rfl) (gC_N rfl) kd_S_comeTo_22 (fun H locs hP hD hS => ?_)
    generalize hτ15 : setN σ i (x, (σ.1 i).2.1, (σ.1 i).2.2.1, (σ.1 i).2.2.2.1, (σ.1 i).2.2.2.2.1, (σ.1 i).2.2.2.2.2.1, (σ.1 i).2.2.2.2.2.2.1, (σ.1 i).2.2.2.2.2.2.2) = τ15 at hP hD
    refine lv_aload_n hx hb kd_S_comeTo_25 rfl (lv_at hl 1 rfl) ?_
    refine lv_aload_n hx hb kd_S_comeTo_26 rfl (lv_at hl 0 rfl) ?_
    refine kx_get (ci := 2) (fs := thisL ad τ15) (v := .long τ15.2.2.1) hx hb hw ki_S hown hK hP kC_0 rfl rfl 2 (by decide) kw_92 rfl rfl kd_S_comeTo_27 ?_
    refine kx_put (ci := 1) (fs := nodeL ad i (τ15.1 i)) (v := .long τ15.2.2.1) (g2 := gC n ad cN cB cL (setN τ15 i ((τ15.1 i).1, τ15.2.2.1, (τ15.1 i).2.2.1, (τ15.1 i).2.2.2.1, (τ15.1 i).2.2.2.2.1, (τ15.1 i).2.2.2.2.2.1, (τ15.1 i).2.2.2.2.2.2.1, (τ15.1 i).2.2.2.2.2.2.2))) hx hb hw ki_N kt_N ko_N kn_N hown hK hP hD hS (kC_3 hi) rfl rfl 3 (by decide) kw_60 rfl rfl rfl rfl (Nat.le_of_ble_eq_true rfl) (gC_N rfl) kd_S_comeTo_30 (fun H locs hP hD hS => ?_)
    generalize hτ16 : setN τ15 i ((τ15.1 i).1, τ15.2.2.1, (τ15.1 i).2.2.1, (τ15.1 i).2.2.2.1, (τ15.1 i).2.2.2.2.1, (τ15.1 i).2.2.2.2.2.1, (τ15.1 i).2.2.2.2.2.2.1, (τ15.1 i).2.2.2.2.2.2.2) = τ16 at hP hD
    refine lv_aload_n hx hb kd_S_comeTo_33 rfl (lv_at hl 1 rfl) ?_
    refine kx_Vi (G := gC n ad cN cB cL) (σ := τ16) (κ := (3, i)) (ci := 1) (fs := nodeL ad i (τ16.1 i)) (As := []) (rest := []) (n := 0) hx hb hml hown hts hT (ct_N_keepsAwake l D hn ad cN cB cL τ16 hi H.size) kw_127 kw_128 kw_129 kw_4 kw_130 (by decide +kernel) ⟨rfl, rfl⟩ ⟨Nat.le_of_ble_eq_true rfl, Nat.le_of_ble_eq_true rfl⟩ hK hP hD hS (kC_3 hi) rfl rfl rfl hl.1 (Nat.le_of_ble_eq_true rfl) kd_S_comeTo_34 rfl ⟨Nat.zero_le _, Nat.zero_le _⟩ (fun r_17 τ18 H locs hq19 hP hD hS => ?_)
    obtain ⟨⟨rfl, q_20⟩ | ⟨rfl, q_20⟩, rfl⟩ := hq19
    · refine lv_if_eq (tgt := 53) hx hb kd_S_comeTo_37 (by decide) (fun c0 => absurd c0 (by decide)) (fun _ => ?_)
      refine lv_aload_n hx hb kd_S_comeTo_40 rfl (lv_at hl 1 rfl) ?_
      refine kx_get (ci := 1) (fs := nodeL ad i (τ16.1 i)) (v := .ref (ad (4, i / 8))) hx hb hw ki_N hown hK hP (kC_3 hi) rfl rfl 1 (by decide) kw_57 rfl rfl kd_S_comeTo_41 ?_
      refine lv_dup hx hb kd_S_comeTo_44 rfl ?_
      refine kx_get (ci := 0) (fs := busL ad (i / 8) (τ16.2.1 (i / 8))) (v := .int ((τ16.2.1 (i / 8)).2.1)) hx hb hw ki_B hown hK hP (kC_4 (nbs_of hi)) rfl rfl 3 (by decide) kw_38 rfl rfl kd_S_comeTo_45 ?_
      refine lv_iconst (v := 1) hx hb kd_S_comeTo_48 (by decide) ?_
      refine lv_iadd hx hb kd_S_comeTo_49 ?_
      refine kx_put (ci := 0) (fs := busL ad (i / 8) (τ16.2.1 (i / 8))) (v := .int (((τ16.2.1 (i / 8)).2.1) + 1)) (g2 := gC n ad cN cB cL (setB τ16 (i / 8) ((τ16.2.1 (i / 8)).1, ((τ16.2.1 (i / 8)).2.1) + 1, (τ16.2.1 (i / 8)).2.2))) hx hb hw ki_B kt_B ko_B kn_B hown hK hP hD hS (kC_4 (nbs_of hi)) rfl rfl 3 (by decide) kw_38 rfl rfl rfl rfl (Nat.le_of_ble_eq_true rfl) (gC_B rfl) kd_S_comeTo_50 (fun H locs hP hD hS => ?_)
      generalize hτ21 : setB τ16 (i / 8) ((τ16.2.1 (i / 8)).1, ((τ16.2.1 (i / 8)).2.1) + 1, (τ16.2.1 (i / 8)).2.2) = τ21 at hP hD
      refine lv_aload_n hx hb kd_S_comeTo_53 rfl (lv_at hl 0 rfl) ?_
      refine lv_dup hx hb kd_S_comeTo_54 rfl ?_
      refine kx_get (ci := 2) (fs := thisL ad τ21) (v := .int τ21.2.2.2) hx hb hw ki_S hown hK hP kC_0 rfl rfl 3 (by decide) kw_93 rfl rfl kd_S_comeTo_55 ?_
      refine lv_iconst (v := 1) hx hb kd_S_comeTo_58 (by decide) ?_
      refine lv_iadd hx hb kd_S_comeTo_59 ?_
      refine kx_put (ci := 2) (fs := thisL ad τ21) (v := .int (τ21.2.2.2 + 1)) (g2 := gC n ad cN cB cL ((τ21.1, τ21.2.1, τ21.2.2.1, τ21.2.2.2 + 1))) hx hb hw ki_S kt_S ko_S kn_S hown hK hP hD hS kC_0 rfl rfl 3 (by decide) kw_93 rfl rfl rfl rfl (Nat.le_of_ble_eq_true rfl) (gC_S rfl) kd_S_comeTo_60 (fun H locs hP hD hS => ?_)
      generalize hτ22 : (τ21.1, τ21.2.1, τ21.2.2.1, τ21.2.2.2 + 1) = τ22 at hP hD
      exact W.vret hx hb hr (fun t ht hW => ⟨⟨τ22, rfl, by subst hτ15; subst hτ16; subst hτ21; subst hτ22; simp only [cmT, if_neg q_4, if_pos q_20], by rw [ht]; exact hP, va_K.moved hW.alike hK, hD.weaken (fun _ _ _ _ => trivial)⟩, hS.F ht⟩) hS.2.2 kd_S_comeTo_63
    · refine lv_if_eq (tgt := 53) hx hb kd_S_comeTo_37 (by decide) (fun _ => ?_) (fun c0 => absurd (by decide) c0)
      refine lv_aload_n hx hb kd_S_comeTo_53 rfl (lv_at hl 0 rfl) ?_
      refine lv_dup hx hb kd_S_comeTo_54 rfl ?_
      refine kx_get (ci := 2) (fs := thisL ad τ16) (v := .int τ16.2.2.2) hx hb hw ki_S hown hK hP kC_0 rfl rfl 3 (by decide) kw_93 rfl rfl kd_S_comeTo_55 ?_
      refine lv_iconst (v := 1) hx hb kd_S_comeTo_58 (by decide) ?_
      refine lv_iadd hx hb kd_S_comeTo_59 ?_
      refine kx_put (ci := 2) (fs := thisL ad τ16) (v := .int (τ16.2.2.2 + 1)) (g2 := gC n ad cN cB cL ((τ16.1, τ16.2.1, τ16.2.2.1, τ16.2.2.2 + 1))) hx hb hw ki_S kt_S ko_S kn_S hown hK hP hD hS kC_0 rfl rfl 3 (by decide) kw_93 rfl rfl rfl rfl (Nat.le_of_ble_eq_true rfl) (gC_S rfl) kd_S_comeTo_60 (fun H locs hP hD hS => ?_)
      generalize hτ23 : (τ16.1, τ16.2.1, τ16.2.2.1, τ16.2.2.2 + 1) = τ23 at hP hD
      exact W.vret hx hb hr (fun t ht hW => ⟨⟨τ23, rfl, by subst hτ15; subst hτ16; subst hτ23; simp only [cmT, if_neg q_4, if_neg q_20], by rw [ht]; exact hP, va_K.moved hW.alike hK, hD.weaken (fun _ _ _ _ => trivial)⟩, hS.F ht⟩) hS.2.2 kd_S_comeTo_63
