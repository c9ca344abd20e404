theorem lp_end {j N : Nat} (hN : N < 2 ^ 31) (hj : j ≤ N) (h : nI N ≤ nI j) : j = N := by
  rcases Nat.lt_or_ge j N with q | q
  · exact absurd h (nI_ge q hN)
  · omega
theorem lp_go {j N : Nat} (hN : N < 2 ^ 31) (hj : j ≤ N) (h : ¬ nI N ≤ nI j) : j < N := by
  rcases Nat.lt_or_ge j N with q | q
  · exact q
  · exact absurd (nI_le q (by omega)) h
/-- to wake -/
def wkU (σ : CS) (i : Nat) : CS :=
  let s1 : CS := cmT σ i 4
  let s2 : CS := setN s1 i ((s1.1 i).1, (s1.1 i).2.1, s1.2.2.1, (s1.1 i).2.2.2.1, (s1.1 i).2.2.2.2.1, (s1.1 i).2.2.2.2.2.1, (s1.1 i).2.2.2.2.2.2.1, (s1.1 i).2.2.2.2.2.2.2)
  let s3 : CS := s2; setN s3 i ((s3.1 i).1, (s3.1 i).2.1, (s3.1 i).2.2.1, s3.2.2.1 + 1, (s3.1 i).2.2.2.2.1, (s3.1 i).2.2.2.2.2.1, (s3.1 i).2.2.2.2.2.2.1, (s3.1 i).2.2.2.2.2.2.2)
def hrS (σ : CS) (i : Nat) : CS :=
  let s1 : CS := setN σ i ((σ.1 i).1, (σ.1 i).2.1, σ.2.2.1, (σ.1 i).2.2.2.1, (σ.1 i).2.2.2.2.1, (σ.1 i).2.2.2.2.2.1, (σ.1 i).2.2.2.2.2.2.1, (σ.1 i).2.2.2.2.2.2.2)
  if (s1.1 i).1 = 1 then wkU s1 i else s1
/-- a bit of a mask, as the class asks for it -/
abbrev tbU (x : Int32) (k : Nat) : Prop := ((x.toUInt32 >>> ((nI k).toUInt32 &&& Int32.toUInt32 31)).toInt32 &&& 1) = 1
/-- the first j bits that stand in x are called at a time -/
def clU (f : Nat → Int64) (x : Int32) (t : Int64) (j : Nat) : Nat → Int64 := fun k => if k < j ∧ tbU x k then t else f k
def cbS (σ : CS) (b : Nat) (x : Int32) (j : Nat) : CS := setB σ b ((σ.2.1 b).1, (σ.2.1 b).2.1, clU (σ.2.1 b).2.2 x σ.2.2.1 j)
theorem clU_0 (f : Nat → Int64) (x : Int32) (t : Int64) : clU f x t 0 = f := by funext k; simp [clU]
theorem clU_y {f : Nat → Int64} {x : Int32} {t : Int64} {j : Nat} (h : tbU x j) : vp_updL (clU f x t j) j t = clU f x t (j + 1) := by
  funext k
  by_cases hk : k = j
  · subst hk; simp [vp_updL, clU, h]
  · have : (k < j + 1) = (k < j) := by apply propext; omega
    simp [vp_updL, clU, hk, this]
theorem clU_n {f : Nat → Int64} {x : Int32} {t : Int64} {j : Nat} (h : ¬ tbU x j) : clU f x t j = clU f x t (j + 1) := by
  funext k
  by_cases hk : k = j
  · subst hk; simp [clU, h]
  · have : (k < j + 1) = (k < j) := by apply propext; omega
    simp [clU, this]
theorem va_up_same {α : Type} (f : Nat → α) (k : Nat) : va_up f k (f k) = f := by funext j; unfold va_up; split <;> simp_all
theorem va_up_up {α : Type} (f : Nat → α) (k : Nat) (u v : α) : va_up (va_up f k u) k v = va_up f k v := by funext j; unfold va_up; split <;> rfl
theorem setB_same (σ : CS) (b : Nat) : setB σ b (σ.2.1 b) = σ := by unfold setB; rw [va_up_same]
theorem setB_up (σ : CS) (b : Nat) (u v : BV) : setB (setB σ b u) b v = setB σ b v := by unfold setB; simp only [va_up_up]
theorem setB_at (σ : CS) (b : Nat) (u : BV) : (setB σ b u).2.1 b = u := va_up_self _ _ _
theorem setB_now (σ : CS) (b : Nat) (u : BV) : (setB σ b u).2.2 = σ.2.2 := rfl
theorem cbS_0 (σ : CS) (b : Nat) (x : Int32) : cbS σ b x 0 = σ := by unfold cbS; rw [clU_0]; exact setB_same σ b
theorem cbS_n {σ : CS} {b : Nat} {x : Int32} {j : Nat} (h : ¬ tbU x j) : cbS σ b x j = cbS σ b x (j + 1) := by unfold cbS; rw [clU_n h]
theorem cbS_y {σ : CS} {b : Nat} {x : Int32} {j : Nat} (h : tbU x j) : setB (cbS σ b x j) b (((cbS σ b x j).2.1 b).1, ((cbS σ b x j).2.1 b).2.1, vp_updL ((cbS σ b x j).2.1 b).2.2 j (cbS σ b x j).2.2.1) = cbS σ b x (j + 1) := by
  unfold cbS
  rw [setB_up, setB_at, setB_now]
  simp only [clU_y h]
set_option maxHeartbeats 4000000 in
set_option maxRecDepth 100000 in
theorem ct_S_wakeUp (l : Launch) (D : va_G) {n : Nat} (hn : 1 ≤ n ∧ n ≤ 64) (ad : Nat × Nat → Nat) (cN cB cL : ClassId) (σ : CS) {i : Nat} (hi : i < n) (sz : Nat) : Met l ky_S_wakeUp (km ky_S_wakeUp kc_S_wakeUp 2 none) ({ frames := 2, cells := 0, slots := 0, locals := 42 }) (cPre D n ad cN cB cL σ [.ref (ad (0, 0)), .ref (ad (3, i))] sz) (cQv D n ad cN cB cL sz (fun τ => wkU σ i = τ)) 0 0 (kA (kC n) ad sz) := by
  refine Met.ofW (cc := kc_S_wakeUp) (maxL := 2) (ret := none) (by decide) rfl ?_
  intro p e s m args below meth c s₁ B hml hv
  obtain ⟨rfl, hsz, hP, hK, hD0⟩ := hv
  have hx := B.exec
  have hb := B.bytes
  have hr := B.returns
  have hts := atoms_spec (ws := km ky_S_wakeUp kc_S_wakeUp 2 none) B.pre
  have hT : ∀ w ∈ kB_l, w ∈ km ky_S_wakeUp kc_S_wakeUp 2 none := fun w h => List.mem_cons_of_mem _ h
  have hw := fun w h => hts w (hT w h)
  have hown : s.vm.findClass kR_S = some m.cls := findClass_of_methodNamed B.named
  have hlocks := B.notSynchronized
  subst hsz
  have hD : va_D (kA (kC n) ad s.heap.size) (kW (kC n) ad (gC n ad cN cB cL σ)) := kD_any _ hD0
  have hS : va_S (kA (kC n) ad s.heap.size) s.heap s.heap [] := va_S.rf
  have hl := lv_entry ([.ref (ad (0, 0)), .ref (ad (3, i))]) (n := 2) (Nat.le_of_ble_eq_true rfl)
  rw [lg_entry_eq]
  generalize (lg_sl ([.ref (ad (0, 0)), .ref (ad (3, i))]) ++ List.replicate (2 - (lg_sl ([.ref (ad (0, 0)), .ref (ad (3, i))])).length) Slot.unset).toArray = ls at hl ⊢
  have hl : lv_has ls 2 [(0, .ref (ad (0, 0))), (1, .ref (ad (3, i)))] := hl
  refine lv_aload_n hx hb kd_S_wakeUp_0 rfl (lv_at hl 0 rfl) ?_
  refine lv_aload_n hx hb kd_S_wakeUp_1 rfl (lv_at hl 1 rfl) ?_
  refine lv_iconst (v := 4) hx hb kd_S_wakeUp_2 (by decide) ?_
  refine kx_Vv (G := gC n ad cN cB cL) (σ := σ) (κ := (0, 0)) (ci := 2) (fs := thisL ad σ) (As := [.ref (ad (3, i)), .int 4]) (rest := []) (n := 2) hx hb hml hown hts hT (ct_S_comeTo l D hn ad cN cB cL σ hi 4 s.heap.size) kw_123 kw_125 ks_2 kw_1 kw_126 (by decide +kernel) ⟨rfl, rfl⟩ ⟨Nat.le_of_ble_eq_true rfl, Nat.le_of_ble_eq_true rfl⟩ hK hP hD hS kC_0 rfl rfl rfl hl.1 (Nat.le_of_ble_eq_true rfl) kd_S_wakeUp_3 rfl ⟨Nat.zero_le _, Nat.zero_le _⟩ (fun τ2 H locs hq3 hP hD hS => ?_)
  have hτ2 := hq3
  refine lv_aload_n hx hb kd_S_wakeUp_6 rfl (lv_at hl 1 rfl) ?_
  refine lv_aload_n hx hb kd_S_wakeUp_7 rfl (lv_at hl 0 rfl) ?_
  refine kx_get (ci := 2) (fs := thisL ad τ2) (v := .long τ2.2.2.1) hx hb hw ki_S hown hK hP kC_0 rfl rfl 2 (by decide) kw_92 rfl rfl kd_S_wakeUp_8 ?_
  refine kx_put (ci := 1) (fs := nodeL ad i (τ2.1 i)) (v := .long τ2.2.2.1) (g2 := gC n ad cN cB cL (setN τ2 i ((τ2.1 i).1, (τ2.1 i).2.1, τ2.2.2.1, (τ2.1 i).2.2.2.1, (τ2.1 i).2.2.2.2.1, (τ2.1 i).2.2.2.2.2.1, (τ2.1 i).2.2.2.2.2.2.1, (τ2.1 i).2.2.2.2.2.2.2))) hx hb hw ki_N kt_N ko_N kn_N hown hK hP hD hS (kC_3 hi) rfl rfl 4 (by decide) kw_61 rfl rfl rfl rfl (Nat.le_of_ble_eq_true rfl) (gC_N rfl) kd_S_wakeUp_11 (fun H locs hP hD hS => ?_)
  generalize hτ4 : setN τ2 i ((τ2.1 i).1, (τ2.1 i).2.1, τ2.2.2.1, (τ2.1 i).2.2.2.1, (τ2.1 i).2.2.2.2.1, (τ2.1 i).2.2.2.2.2.1, (τ2.1 i).2.2.2.2.2.2.1, (τ2.1 i).2.2.2.2.2.2.2) = τ4 at hP hD
  refine lv_aload_n hx hb kd_S_wakeUp_14 rfl (lv_at hl 1 rfl) ?_
  refine lv_aload_n hx hb kd_S_wakeUp_15 rfl (lv_at hl 0 rfl) ?_
  refine kx_get (ci := 2) (fs := thisL ad τ4) (v := .long τ4.2.2.1) hx hb hw ki_S hown hK hP kC_0 rfl rfl 2 (by decide) kw_92 rfl rfl kd_S_wakeUp_16 ?_
  refine lv_lconst (v := 1) hx hb kd_S_wakeUp_19 (by decide) ?_
  refine lv_ladd hx hb kd_S_wakeUp_20 ?_
  refine kx_put (ci := 1) (fs := nodeL ad i (τ4.1 i)) (v := .long (τ4.2.2.1 + 1)) (g2 := gC n ad cN cB cL (setN τ4 i ((τ4.1 i).1, (τ4.1 i).2.1, (τ4.1 i).2.2.1, τ4.2.2.1 + 1, (τ4.1 i).2.2.2.2.1, (τ4.1 i).2.2.2.2.2.1, (τ4.1 i).2.2.2.2.2.2.1, (τ4.1 i).2.2.2.2.2.2.2))) hx hb hw ki_N kt_N ko_N kn_N hown hK hP hD hS (kC_3 hi) rfl rfl 5 (by decide) kw_62 rfl rfl rfl rfl (Nat.le_of_ble_eq_true rfl) (gC_N rfl) kd_S_wakeUp_21 (fun H locs hP hD hS => ?_)
  generalize hτ5 : setN τ4 i ((τ4.1 i).1, (τ4.1 i).2.1, (τ4.1 i).2.2.1, τ4.2.2.1 + 1, (τ4.1 i).2.2.2.2.1, (τ4.1 i).2.2.2.2.2.1, (τ4.1 i).2.2.2.2.2.2.1, (τ4.1 i).2.2.2.2.2.2.2) = τ5 at hP hD
  exact W.vret hx hb hr (fun t ht hW => ⟨⟨τ5, rfl, by subst hτ2; subst hτ4; subst hτ5; rfl, by rw [ht]; exact hP, va_K.moved hW.alike hK, hD.weaken (fun _ _ _ _ => trivial)⟩, hS.F ht⟩) hS.2.2 kd_S_wakeUp_24
set_option maxHeartbeats 4000000 in
set_option maxRecDepth 100000 in
theorem ct_S_hear (l : Launch) (D : va_G) {n : Nat} (hn : 1 ≤ n ∧ n ≤ 64) (ad : Nat × Nat → Nat) (cN cB cL : ClassId) (σ : CS) {i : Nat} (hi : i < n) (sz : Nat) : Met l ky_S_hear (km ky_S_hear kc_S_hear 2 none) ({ frames := 3, cells := 0, slots := 0, locals := 63 }) (cPre D n ad cN cB cL σ [.ref (ad (0, 0)), .ref (ad (3, i))] sz) (cQv D n ad cN cB cL sz (fun τ => hrS σ i = τ)) 0 0 (kA (kC n) ad sz) := by
  refine Met.ofW (cc := kc_S_hear) (maxL := 2) (ret := none) (by decide) rfl ?_
  intro p e s m args below meth c s₁ B hml hv
  obtain ⟨rfl, hsz, hP, hK, hD0⟩ := hv
  have hx := B.exec
  have hb := B.bytes
  have hr := B.returns
  have hts := atoms_spec (ws := km ky_S_hear kc_S_hear 2 none) B.pre
  have hT : ∀ w ∈ kB_l, w ∈ km ky_S_hear kc_S_hear 2 none := fun w h => List.mem_cons_of_mem _ h
  have hw := fun w h => hts w (hT w h)
  have hown : s.vm.findClass kR_S = some m.cls := findClass_of_methodNamed B.named
  have hlocks := B.notSynchronized
  subst hsz
  have hD : va_D (kA (kC n) ad s.heap.size) (kW (kC n) ad (gC n ad cN cB cL σ)) := kD_any _ hD0
  have hS : va_S (kA (kC n) ad s.heap.size) s.heap s.heap [] := va_S.rf
  have hl := lv_entry ([.ref (ad (0, 0)), .ref (ad (3, i))]) (n := 2) (Nat.le_of_ble_eq_true rfl)
  rw [lg_entry_eq]
  generalize (lg_sl ([.ref (ad (0, 0)), .ref (ad (3, i))]) ++ List.replicate (2 - (lg_sl ([.ref (ad (0, 0)), .ref (ad (3, i))])).length) Slot.unset).toArray = ls at hl ⊢
  have hl : lv_has ls 2 [(0, .ref (ad (0, 0))), (1, .ref (ad (3, i)))] := hl
  refine lv_aload_n hx hb kd_S_hear_0 rfl (lv_at hl 1 rfl) ?_
  refine lv_aload_n hx hb kd_S_hear_1 rfl (lv_at hl 0 rfl) ?_
  refine kx_get (ci := 2) (fs := thisL ad σ) (v := .long σ.2.2.1) hx hb hw ki_S hown hK hP kC_0 rfl rfl 2 (by decide) kw_92 rfl rfl kd_S_hear_2 ?_
  refine kx_put (ci := 1) (fs := nodeL ad i (σ.1 i)) (v := .long σ.2.2.1) (g2 := gC n ad cN cB cL (setN σ i ((σ.1 i).1, (σ.1 i).2.1, σ.2.2.1, (σ.1 i).2.2.2.1, (σ.1 i).2.2.2.2.1, (σ.1 i).2.2.2.2.2.1, (σ.1 i).2.2.2.2.2.2.1, (σ.1 i).2.2.2.2.2.2.2))) hx hb hw ki_N kt_N ko_N kn_N hown hK hP hD hS (kC_3 hi) rfl rfl 4 (by decide) kw_61 rfl rfl rfl rfl (Nat.le_of_ble_eq_true rfl) (gC_N rfl) kd_S_hear_5 (fun H locs hP hD hS => ?_)
  generalize hτ1 : setN σ i ((σ.1 i).1, (σ.1 i).2.1, σ.2.2.1, (σ.1 i).2.2.2.1, (σ.1 i).2.2.2.2.1, (σ.1 i).2.2.2.2.2.1, (σ.1 i).2.2.2.2.2.2.1, (σ.1 i).2.2.2.2.2.2.2) = τ1 at hP hD
  refine lv_aload_n hx hb kd_S_hear_8 rfl (lv_at hl 1 rfl) ?_
  refine kx_get (ci := 1) (fs := nodeL ad i (τ1.1 i)) (v := .int ((τ1.1 i).1)) hx hb hw ki_N hown hK hP (kC_3 hi) rfl rfl 2 (by decide) kw_58 rfl rfl kd_S_hear_9 ?_
  refine lv_iconst (v := 1) hx hb kd_S_hear_12 (by decide) ?_
  refine lv_icmp_ne (tgt := 21) hx hb kd_S_hear_13 (by decide) (fun c_2 => ?_) (fun c_2 => ?_)
  · exact W.vret hx hb hr (fun t ht hW => ⟨⟨τ1, rfl, by subst hτ1; exact if_neg c_2, by rw [ht]; exact hP, va_K.moved hW.alike hK, hD.weaken (fun _ _ _ _ => trivial)⟩, hS.F ht⟩) hS.2.2 kd_S_hear_21
  · refine lv_aload_n hx hb kd_S_hear_16 rfl (lv_at hl 0 rfl) ?_
    refine lv_aload_n hx hb kd_S_hear_17 rfl (lv_at hl 1 rfl) ?_
    refine kx_Vv (G := gC n ad cN cB cL) (σ := τ1) (κ := (0, 0)) (ci := 2) (fs := thisL ad τ1) (As := [.ref (ad (3, i))]) (rest := []) (n := 1) hx hb hml hown hts hT (ct_S_wakeUp l D hn ad cN cB cL τ1 hi H.size) kw_119 kw_121 ks_1 kw_1 kw_122 (by decide +kernel) ⟨rfl, rfl⟩ ⟨Nat.le_of_ble_eq_true rfl, Nat.le_of_ble_eq_true rfl⟩ hK hP hD hS kC_0 rfl rfl rfl hl.1 (Nat.le_of_ble_eq_true rfl) kd_S_hear_18 rfl ⟨Nat.zero_le _, Nat.zero_le _⟩ (fun τ4 H locs hq5 hP hD hS => ?_)
    have hτ4 := hq5
    exact W.vret hx hb hr (fun t ht hW => ⟨⟨τ4, rfl, by subst hτ1; subst hτ4; exact if_pos c_2, by rw [ht]; exact hP, va_K.moved hW.alike hK, hD.weaken (fun _ _ _ _ => trivial)⟩, hS.F ht⟩) hS.2.2 kd_S_hear_21
set_option maxHeartbeats 4000000 in
set_option maxRecDepth 100000 in
theorem ct_S_callBits (l : Launch) (D : va_G) {n : Nat} (hn : 1 ≤ n ∧ n ≤ 64) (ad : Nat × Nat → Nat) (cN cB cL : ClassId) (σ : CS) {b : Nat} (hbb : b < nbs n) (x : Int32) (sz : Nat) : Met l ky_S_callBits (km ky_S_callBits kc_S_callBits 4 none) ({ frames := 0, cells := 0, slots := 0, locals := 0 }) (cPre D n ad cN cB cL σ [.ref (ad (0, 0)), .ref (ad (4, b)), .int x] sz) (cQv D n ad cN cB cL sz (fun τ => cbS σ b x 32 = τ)) 0 0 (kA (kC n) ad sz) := by
  refine Met.ofW (cc := kc_S_callBits) (maxL := 4) (ret := none) (by decide) rfl ?_
  intro p e s m args below meth c s₁ B hml hv
  obtain ⟨rfl, hsz, hP, hK, hD0⟩ := hv
  have hx := B.exec
  have hb := B.bytes
  have hr := B.returns
  have hts := atoms_spec (ws := km ky_S_callBits kc_S_callBits 4 none) B.pre
  have hT : ∀ w ∈ kB_l, w ∈ km ky_S_callBits kc_S_callBits 4 none := fun w h => List.mem_cons_of_mem _ h
  have hw := fun w h => hts w (hT w h)
  have hown : s.vm.findClass kR_S = some m.cls := findClass_of_methodNamed B.named
  have hlocks := B.notSynchronized
  subst hsz
  have hD : va_D (kA (kC n) ad s.heap.size) (kW (kC n) ad (gC n ad cN cB cL σ)) := kD_any _ hD0
  have hS : va_S (kA (kC n) ad s.heap.size) s.heap s.heap [] := va_S.rf
  have hl := lv_entry ([.ref (ad (0, 0)), .ref (ad (4, b)), .int x]) (n := 4) (Nat.le_of_ble_eq_true rfl)
  rw [lg_entry_eq]
  generalize (lg_sl ([.ref (ad (0, 0)), .ref (ad (4, b)), .int x]) ++ List.replicate (4 - (lg_sl ([.ref (ad (0, 0)), .ref (ad (4, b)), .int x])).length) Slot.unset).toArray = ls at hl ⊢
  have hl : lv_has ls 4 [(0, .ref (ad (0, 0))), (1, .ref (ad (4, b))), (2, .int x)] := hl
  refine lv_iconst (v := 0) hx hb kd_S_callBits_0 (by decide) ?_
  refine lv_istore_n (lv' := [(3, .int 0), (0, .ref (ad (0, 0))), (1, .ref (ad (4, b))), (2, .int x)]) hx hb kd_S_callBits_1 rfl hl (by decide) rfl (fun ls hl => ?_)
  have loop : ∀ (q j : Nat) (ρj : CS)  (H : Heap) (locs : List Loc) (ls : Array Slot), j ≤ 32 → 32 < j + q → (ρj = cbS σ b x j) → va_P D kCl (kW (kC n) ad (gC n ad cN cB cL ρj)) H → va_D (kA (kC n) ad s.heap.size) (kW (kC n) ad (gC n ad cN cB cL ρj)) → va_S (kA (kC n) ad s.heap.size) s.heap H locs → lv_has ls 4 [(0, .ref (ad (0, 0))), (1, .ref (ad (4, b))), (2, .int x), (3, .int (nI j))] → W p l e (headSpec (km ky_S_callBits kc_S_callBits 4 none) ({ frames := 0, cells := 0, slots := 0, locals := 0 })).room s m [.ref (ad (0, 0)), .ref (ad (4, b)), .int x].toArray below meth c H locs 0 0 (MQ below (cQv D n ad cN cB cL s.heap.size (fun τ => cbS σ b x 32 = τ)) [.ref (ad (0, 0)), .ref (ad (4, b)), .int x].toArray s 0 0 (kA (kC n) ad s.heap.size)) (F0 m 2 ls []) := by
    intro q
    induction q with
    | zero => intro j ρj  H locs ls hj_j hq_j; exact absurd hq_j (by omega)
    | succ q ih_j =>
      intro j ρj  H locs ls hj_j hq_j hI_j hP hD hS hl
      refine lv_iload_n hx hb kd_S_callBits_2 rfl (lv_at hl 3 rfl) ?_
      refine lv_aload_n hx hb kd_S_callBits_3 rfl (lv_at hl 1 rfl) ?_
      refine kx_get (ci := 0) (fs := busL ad b (ρj.2.1 b)) (v := .ref (ad (6, b))) hx hb hw ki_B hown hK hP (kC_4 hbb) rfl rfl 1 (by decide) kw_35 rfl rfl kd_S_callBits_4 ?_
      refine kx_alen (n := 32) hx hb hK hP (kC_6 hbb) 2 rfl rfl kd_S_callBits_7 ?_
      refine lv_icmp_ge (tgt := 36) hx hb kd_S_callBits_8 (by decide) (fun c_1 => ?_) (fun c_1 => ?_)
      · have hje_j : j = 32 := lp_end (by decide) hj_j c_1
        exact W.vret hx hb hr (fun t ht hW => ⟨⟨ρj, rfl, by rw [hI_j, hje_j], by rw [ht]; exact hP, va_K.moved hW.alike hK, hD.weaken (fun _ _ _ _ => trivial)⟩, hS.F ht⟩) hS.2.2 kd_S_callBits_36
      · have hlt_j : j < 32 := lp_go (by decide) hj_j c_1
        refine lv_iload_n hx hb kd_S_callBits_11 rfl (lv_at hl 2 rfl) ?_
        refine lv_iload_n hx hb kd_S_callBits_12 rfl (lv_at hl 3 rfl) ?_
        refine lv_iushr (v := (x.toUInt32 >>> ((nI j).toUInt32 &&& Int32.toUInt32 31)).toInt32) hx hb kd_S_callBits_13 rfl ?_
        refine lv_iconst (v := 1) hx hb kd_S_callBits_14 (by decide) ?_
        refine lv_iand hx hb kd_S_callBits_15 ?_
        refine lv_iconst (v := 1) hx hb kd_S_callBits_16 (by decide) ?_
        refine lv_icmp_ne (tgt := 30) hx hb kd_S_callBits_17 (by decide) (fun c_2 => ?_) (fun c_2 => ?_)
        · refine lv_iinc (v := nI (j + 1)) (lv' := [(3, .int (nI (j + 1))), (0, .ref (ad (0, 0))), (1, .ref (ad (4, b))), (2, .int x)]) hx hb kd_S_callBits_30 hl (k := 3) rfl (nI_1 j) (by decide) rfl (fun ls hl => ?_)
          refine lv_goto (tgt := 2) hx hb kd_S_callBits_33 (by decide) ?_
          exact ih_j (j + 1) ρj  _ _ _ hlt_j (by omega) (by rw [hI_j]; exact cbS_n c_2) hP hD hS (lv_sub hl [1, 2, 3, 0] rfl)
        · refine lv_aload_n hx hb kd_S_callBits_20 rfl (lv_at hl 1 rfl) ?_
          refine kx_get (ci := 0) (fs := busL ad b (ρj.2.1 b)) (v := .ref (ad (6, b))) hx hb hw ki_B hown hK hP (kC_4 hbb) rfl rfl 1 (by decide) kw_35 rfl rfl kd_S_callBits_21 ?_
          refine lv_iload_n hx hb kd_S_callBits_24 rfl (lv_at hl 3 rfl) ?_
          refine lv_aload_n hx hb kd_S_callBits_25 rfl (lv_at hl 0 rfl) ?_
          refine kx_get (ci := 2) (fs := thisL ad ρj) (v := .long ρj.2.2.1) hx hb hw ki_S hown hK hP kC_0 rfl rfl 2 (by decide) kw_92 rfl rfl kd_S_callBits_26 ?_
          refine kx_last (i := j) (g2 := gC n ad cN cB cL (setB ρj b ((ρj.2.1 b).1, (ρj.2.1 b).2.1, vp_updL (ρj.2.1 b).2.2 j ρj.2.2.1))) hx hb hK hP hD hS (kC_6 hbb) 2 rfl rfl rfl hlt_j (by decide) gC_L kd_S_callBits_29 (fun H locs hP hD hS => ?_)
          generalize hτ3 : setB ρj b ((ρj.2.1 b).1, (ρj.2.1 b).2.1, vp_updL (ρj.2.1 b).2.2 j ρj.2.2.1) = τ3 at hP hD
          refine lv_iinc (v := nI (j + 1)) (lv' := [(3, .int (nI (j + 1))), (0, .ref (ad (0, 0))), (1, .ref (ad (4, b))), (2, .int x)]) hx hb kd_S_callBits_30 hl (k := 3) rfl (nI_1 j) (by decide) rfl (fun ls hl => ?_)
          refine lv_goto (tgt := 2) hx hb kd_S_callBits_33 (by decide) ?_
          exact ih_j (j + 1) τ3  _ _ _ hlt_j (by omega) (by subst hτ3; rw [hI_j]; exact cbS_y c_2) hP hD hS (lv_sub hl [1, 2, 3, 0] rfl)
  exact loop (32 + 1) 0 σ  _ _ _ (Nat.zero_le _) (by omega) (cbS_0 σ b x).symm hP hD hS (lv_sub hl [1, 2, 3, 0] rfl)
/-- one of the bits of x was called on the bus 10 ticks ago or less -/
def wcl (σ : CS) (b : Nat) (x : Int32) : Prop := ∃ k, k < 32 ∧ tbU x k ∧ ¬ σ.2.2.1 - (σ.2.1 b).2.2 k > 10
set_option maxHeartbeats 4000000 in
set_option maxRecDepth 100000 in
theorem ct_S_wasCalled (l : Launch) (D : va_G) {n : Nat} (hn : 1 ≤ n ∧ n ≤ 64) (ad : Nat × Nat → Nat) (cN cB cL : ClassId) (σ : CS) {b : Nat} (hbb : b < nbs n) (x : Int32) (sz : Nat) : Met l ky_S_wasCalled (km ky_S_wasCalled kc_S_wasCalled 4 (some .boolean)) ({ frames := 0, cells := 0, slots := 0, locals := 0 }) (cPre D n ad cN cB cL σ [.ref (ad (0, 0)), .ref (ad (4, b)), .int x] sz) (cQi D n ad cN cB cL sz (fun r τ => ((r = 1 ∧ wcl σ b x) ∨ (r = 0 ∧ ¬ wcl σ b x)) ∧ σ = τ)) 0 0 (kA (kC n) ad sz) := by
  refine Met.ofW (cc := kc_S_wasCalled) (maxL := 4) (ret := (some .boolean)) (by decide) rfl ?_
  intro p e s m args below meth c s₁ B hml hv
  obtain ⟨rfl, hsz, hP, hK, hD0⟩ := hv
  have hx := B.exec
  have hb := B.bytes
  have hr := B.returns
  have hts := atoms_spec (ws := km ky_S_wasCalled kc_S_wasCalled 4 (some .boolean)) B.pre
  have hT : ∀ w ∈ kB_l, w ∈ km ky_S_wasCalled kc_S_wasCalled 4 (some .boolean) := fun w h => List.mem_cons_of_mem _ h
  have hw := fun w h => hts w (hT w h)
  have hown : s.vm.findClass kR_S = some m.cls := findClass_of_methodNamed B.named
  have hlocks := B.notSynchronized
  subst hsz
  have hD : va_D (kA (kC n) ad s.heap.size) (kW (kC n) ad (gC n ad cN cB cL σ)) := kD_any _ hD0
  have hS : va_S (kA (kC n) ad s.heap.size) s.heap s.heap [] := va_S.rf
  have hl := lv_entry ([.ref (ad (0, 0)), .ref (ad (4, b)), .int x]) (n := 4) (Nat.le_of_ble_eq_true rfl)
  rw [lg_entry_eq]
  generalize (lg_sl ([.ref (ad (0, 0)), .ref (ad (4, b)), .int x]) ++ List.replicate (4 - (lg_sl ([.ref (ad (0, 0)), .ref (ad (4, b)), .int x])).length) Slot.unset).toArray = ls at hl ⊢
  have hl : lv_has ls 4 [(0, .ref (ad (0, 0))), (1, .ref (ad (4, b))), (2, .int x)] := hl
  refine lv_iconst (v := 0) hx hb kd_S_wasCalled_0 (by decide) ?_
  refine lv_istore_n (lv' := [(3, .int 0), (0, .ref (ad (0, 0))), (1, .ref (ad (4, b))), (2, .int x)]) hx hb kd_S_wasCalled_1 rfl hl (by decide) rfl (fun ls hl => ?_)
  have loop : ∀ (q j : Nat) (ρj : CS)  (H : Heap) (locs : List Loc) (ls : Array Slot), j ≤ 32 → 32 < j + q → (σ = ρj ∧ ∀ k, k < j → tbU x k → ¬ ¬ σ.2.2.1 - (σ.2.1 b).2.2 k > 10) → va_P D kCl (kW (kC n) ad (gC n ad cN cB cL ρj)) H → va_D (kA (kC n) ad s.heap.size) (kW (kC n) ad (gC n ad cN cB cL ρj)) → va_S (kA (kC n) ad s.heap.size) s.heap H locs → lv_has ls 4 [(0, .ref (ad (0, 0))), (1, .ref (ad (4, b))), (2, .int x), (3, .int (nI j))] → W p l e (headSpec (km ky_S_wasCalled kc_S_wasCalled 4 (some .boolean)) ({ frames := 0, cells := 0, slots := 0, locals := 0 })).room s m [.ref (ad (0, 0)), .ref (ad (4, b)), .int x].toArray below meth c H locs 0 0 (MQ below (cQi D n ad cN cB cL s.heap.size (fun r τ => ((r = 1 ∧ wcl σ b x) ∨ (r = 0 ∧ ¬ wcl σ b x)) ∧ σ = τ)) [.ref (ad (0, 0)), .ref (ad (4, b)), .int x].toArray s 0 0 (kA (kC n) ad s.heap.size)) (F0 m 2 ls []) := by
    intro q
    induction q with
    | zero => intro j ρj  H locs ls hj_j hq_j; exact absurd hq_j (by omega)
    | succ q ih_j =>
      intro j ρj  H locs ls hj_j hq_j hI_j hP hD hS hl
      refine lv_iload_n hx hb kd_S_wasCalled_2 rfl (lv_at hl 3 rfl) ?_
      refine lv_aload_n hx hb kd_S_wasCalled_3 rfl (lv_at hl 1 rfl) ?_
      refine kx_get (ci := 0) (fs := busL ad b (ρj.2.1 b)) (v := .ref (ad (6, b))) hx hb hw ki_B hown hK hP (kC_4 hbb) rfl rfl 1 (by decide) kw_35 rfl rfl kd_S_wasCalled_4 ?_
      refine kx_alen (n := 32) hx hb hK hP (kC_6 hbb) 2 rfl rfl kd_S_wasCalled_7 ?_
      refine lv_icmp_ge (tgt := 46) hx hb kd_S_wasCalled_8 (by decide) (fun c_1 => ?_) (fun c_1 => ?_)
      · have hje_j : j = 32 := lp_end (by decide) hj_j c_1
        refine lv_iconst (v := 0) hx hb kd_S_wasCalled_46 (by decide) ?_
        exact W.zret (v := 0) hx hb hr rfl (fun t ht hW => ⟨⟨0, ρj, rfl, ⟨Or.inr ⟨rfl, fun ⟨k, hk, h1, h2⟩ => hI_j.2 k (by omega) h1 h2⟩, hI_j.1⟩, by rw [ht]; exact hP, va_K.moved hW.alike hK, hD.weaken (fun _ _ _ _ => trivial)⟩, hS.F ht⟩) hS.2.2 kd_S_wasCalled_47
      · have hlt_j : j < 32 := lp_go (by decide) hj_j c_1
        refine lv_iload_n hx hb kd_S_wasCalled_11 rfl (lv_at hl 2 rfl) ?_
        refine lv_iload_n hx hb kd_S_wasCalled_12 rfl (lv_at hl 3 rfl) ?_
        refine lv_iushr (v := (x.toUInt32 >>> ((nI j).toUInt32 &&& Int32.toUInt32 31)).toInt32) hx hb kd_S_wasCalled_13 rfl ?_
        refine lv_iconst (v := 1) hx hb kd_S_wasCalled_14 (by decide) ?_
        refine lv_iand hx hb kd_S_wasCalled_15 ?_
        refine lv_iconst (v := 1) hx hb kd_S_wasCalled_16 (by decide) ?_
        refine lv_icmp_ne (tgt := 40) hx hb kd_S_wasCalled_17 (by decide) (fun c_2 => ?_) (fun c_2 => ?_)
        · refine lv_iinc (v := nI (j + 1)) (lv' := [(3, .int (nI (j + 1))), (0, .ref (ad (0, 0))), (1, .ref (ad (4, b))), (2, .int x)]) hx hb kd_S_wasCalled_40 hl (k := 3) rfl (nI_1 j) (by decide) rfl (fun ls hl => ?_)
          refine lv_goto (tgt := 2) hx hb kd_S_wasCalled_43 (by decide) ?_
          exact ih_j (j + 1) ρj  _ _ _ hlt_j (by omega) ⟨hI_j.1, lt_s hI_j.2 (fun h1 h2 => c_2 h1)⟩ hP hD hS (lv_sub hl [1, 2, 3, 0] rfl)
        · refine lv_aload_n hx hb kd_S_wasCalled_20 rfl (lv_at hl 0 rfl) ?_
          refine kx_get (ci := 2) (fs := thisL ad ρj) (v := .long ρj.2.2.1) hx hb hw ki_S hown hK hP kC_0 rfl rfl 2 (by decide) kw_92 rfl rfl kd_S_wasCalled_21 ?_
          refine lv_aload_n hx hb kd_S_wasCalled_24 rfl (lv_at hl 1 rfl) ?_
          refine kx_get (ci := 0) (fs := busL ad b (ρj.2.1 b)) (v := .ref (ad (6, b))) hx hb hw ki_B hown hK hP (kC_4 hbb) rfl rfl 1 (by decide) kw_35 rfl rfl kd_S_wasCalled_25 ?_
          refine lv_iload_n hx hb kd_S_wasCalled_28 rfl (lv_at hl 3 rfl) ?_
          refine kx_lald (i := j) hx hb hK hP (kC_6 hbb) 2 rfl rfl rfl hlt_j (by decide) kd_S_wasCalled_29 ?_
          refine lv_lsub hx hb kd_S_wasCalled_30 ?_
          refine lv_ldc2 (v := 10) hx hb hown (hw _ kw_161) kd_S_wasCalled_31 ?_
          refine W.lcmp hx hb kd_S_wasCalled_34 ?_
          refine lv_if_gt (tgt := 40) hx hb kd_S_wasCalled_35 (by decide) (fun c_3 => ?_) (fun c_3 => ?_)
          · have c_3 := (lg_cmp_gt _ _).mp c_3
            refine lv_iinc (v := nI (j + 1)) (lv' := [(3, .int (nI (j + 1))), (0, .ref (ad (0, 0))), (1, .ref (ad (4, b))), (2, .int x)]) hx hb kd_S_wasCalled_40 hl (k := 3) rfl (nI_1 j) (by decide) rfl (fun ls hl => ?_)
            refine lv_goto (tgt := 2) hx hb kd_S_wasCalled_43 (by decide) ?_
            exact ih_j (j + 1) ρj  _ _ _ hlt_j (by omega) ⟨hI_j.1, lt_s hI_j.2 (fun h1 h2 => h2 (by rw [hI_j.1]; exact c_3))⟩ hP hD hS (lv_sub hl [1, 2, 3, 0] rfl)
          · have c_3 := fun h => c_3 ((lg_cmp_gt _ _).mpr h)
            refine lv_iconst (v := 1) hx hb kd_S_wasCalled_38 (by decide) ?_
            exact W.zret (v := 1) hx hb hr rfl (fun t ht hW => ⟨⟨1, ρj, rfl, ⟨Or.inl ⟨rfl, j, hlt_j, by rw [hI_j.1] at *; exact ⟨c_2, c_3⟩⟩, hI_j.1⟩, by rw [ht]; exact hP, va_K.moved hW.alike hK, hD.weaken (fun _ _ _ _ => trivial)⟩, hS.F ht⟩) hS.2.2 kd_S_wasCalled_39
  exact loop (32 + 1) 0 σ  _ _ _ (Nat.zero_le _) (by omega) ⟨rfl, lt_0⟩ hP hD hS (lv_sub hl [1, 2, 3, 0] rfl)
