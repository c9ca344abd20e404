theorem now_mBec (σ : MS) (v : Nat) (x : Int32) : (mBec σ v x).2.2.2.2.1 = σ.2.2.2.2.1 := rfl
theorem now_mWak (σ : MS) (v : Nat) : (mWak σ v).2.2.2.2.1 = σ.2.2.2.2.1 := rfl
theorem now_mRwA (σ : MS) (v k : Nat) : (mRwA σ v k).1.2.2.2.2.1 = σ.2.2.2.2.1 := by
  induction k with
  | zero => rfl
  | succ k ih =>
    unfold mRwA
    dsimp only
    repeat' split
    all_goals exact ih
theorem now_mRwB (σ : MS) (v k : Nat) : (mRwB σ v k).2.2.2.2.1 = σ.2.2.2.2.1 := by
  induction k with
  | zero => rfl
  | succ k ih =>
    unfold mRwB
    dsimp only
    repeat' split
    all_goals exact ih
theorem now_mRwS (n : Nat) (σ : MS) (v : Nat) : (mRwS n σ v).2.2.2.2.1 = σ.2.2.2.2.1 := by unfold mRwS; rw [now_mRwB, now_mRwA]
theorem now_mChS (n : Nat) (σ : MS) (v : Nat) : (mChS n σ v).2.2.2.2.1 = σ.2.2.2.2.1 := by
  unfold mChS
  dsimp only
  repeat' split
  all_goals rfl
theorem now_mChA (n : Nat) (σ : MS) (k : Nat) : (mChA n σ k).2.2.2.2.1 = σ.2.2.2.2.1 := by
  induction k with
  | zero => rfl
  | succ k ih => exact (now_mChS n _ _).trans ih
theorem now_mSdS (n : Nat) (σ : MS) (v : Nat) : (mSdS n σ v).2.2.2.2.1 = σ.2.2.2.2.1 := by
  unfold mSdS mSnd
  dsimp only
  repeat' split
  all_goals first | (rw [now_mRwS]; try rfl) | rfl
theorem now_mSdA (n : Nat) (σ : MS) (k : Nat) : (mSdA n σ k).2.2.2.2.1 = σ.2.2.2.2.1 := by
  induction k with
  | zero => rfl
  | succ k ih => exact (now_mSdS n _ _).trans ih
theorem now_mTk (n : Nat) (σ : MS) : (mTk n σ).2.2.2.2.1 = σ.2.2.2.2.1 + 1 := (now_mSdA n _ n).trans (now_mChA n _ n)
def mGo (n : Nat) : Nat → MS → MS
  | 0, σ => σ
  | d + 1, σ => mGo n d (mTk n σ)
def mGoT (n : Nat) (σ : MS) (t : Int64) : MS := mGo n (t - σ.2.2.2.2.1).toInt.toNat σ
theorem go_lt {a d : Nat} {t : Int64} (htt : t = lN (a + d)) (had : a + d < 2 ^ 30 + 2000) (c : ¬ 0 ≤ lg_cmp (lN a) t) : 0 < d := by
  rcases Nat.eq_zero_or_pos d with h | h
  · exact absurd ((lg_cmp_ge _ _).mpr (by rw [htt, h]; exact (lN_le (by omega) (by omega)).mpr (by omega))) c
  · exact h
theorem go_ge {a d : Nat} {t : Int64} (htt : t = lN (a + d)) (had : a + d < 2 ^ 30 + 2000) (c : 0 ≤ lg_cmp (lN a) t) : d = 0 := by
  have z := (lg_cmp_ge _ _).mp c
  rw [htt, lN_le (by omega) (by omega)] at z
  omega
set_option maxHeartbeats 4000000 in
set_option maxRecDepth 100000 in
theorem ct_M_go (l : Launch) (D : va_G) {n : Nat} (hn : 1 ≤ n ∧ n ≤ 64) (ad : Nat × Nat → Nat) (cI cZ cL : ClassId) (σ : MS) (t : Int64) (hok : okT σ.2.2.2.2.1 t) {a : Nat} (ha : σ.2.2.2.2.1 = lN a) (hA : a < 2 ^ 30) (sz : Nat) : Met l ky_M_go (km ky_M_go kc_M_go 3 none) ({ frames := 4, cells := 0, slots := 0, locals := 89 }) (mPre D n ad cI cZ cL σ [.ref (ad (0, 0)), .long t] sz) (mQv D n ad cI cZ cL sz (fun τ => mGoT n σ t = τ)) 0 0 (kA (kM) ad sz) := by
  refine Met.ofW (cc := kc_M_go) (maxL := 3) (ret := none) (by decide) rfl ?_
  intro p e s m args below meth c s₁ B hml hv
  obtain ⟨rfl, hsz, hP, hK, hD0⟩ := hv
  have hx := B.exec
  have hb := B.bytes
  have hr := B.returns
  have hts := atoms_spec (ws := km ky_M_go kc_M_go 3 none) B.pre
  have hT : ∀ w ∈ kB_l, w ∈ km ky_M_go kc_M_go 3 none := fun w h => List.mem_cons_of_mem _ h
  have hw := fun w h => hts w (hT w h)
  have hown : s.vm.findClass kR_M = some m.cls := findClass_of_methodNamed B.named
  have hlocks := B.notSynchronized
  subst hsz
  have hD : va_D (kA (kM) ad s.heap.size) (kW (kM) ad (gM n ad cI cZ cL σ)) := kD_any _ hD0
  have hS : va_S (kA (kM) ad s.heap.size) s.heap s.heap [] := va_S.rf
  have hl := lv_entry ([.ref (ad (0, 0)), .long t]) (n := 3) (Nat.le_of_ble_eq_true rfl)
  rw [lg_entry_eq]
  generalize (lg_sl ([.ref (ad (0, 0)), .long t]) ++ List.replicate (3 - (lg_sl ([.ref (ad (0, 0)), .long t])).length) Slot.unset).toArray = ls at hl ⊢
  have hl : lv_has ls 3 [(0, .ref (ad (0, 0))), (1, .long t)] := hl
  obtain ⟨d0, hd0, ht0, he0⟩ := okT_d hok ha hA
  have loop : ∀ (q a d : Nat) (ρ : MS) (H : Heap) (locs : List Loc) (ls : Array Slot), d < q → ρ.2.2.2.2.1 = lN a → t = lN (a + d) → a + d < 2 ^ 30 + 2000 → mGo n d ρ = mGo n d0 σ → va_P D kCl (kW (kM) ad (gM n ad cI cZ cL ρ)) H → va_D (kA (kM) ad s.heap.size) (kW (kM) ad (gM n ad cI cZ cL ρ)) → va_S (kA (kM) ad s.heap.size) s.heap H locs → lv_has ls 3 [(0, .ref (ad (0, 0))), (1, .long t)] → W p l e (headSpec (km ky_M_go kc_M_go 3 none) ({ frames := 4, cells := 0, slots := 0, locals := 89 })).room s m [.ref (ad (0, 0)), .long t].toArray below meth c H locs 0 0 (MQ below (mQv D n ad cI cZ cL s.heap.size (fun τ => mGoT n σ t = τ)) [.ref (ad (0, 0)), .long t].toArray s 0 0 (kA (kM) ad s.heap.size)) (F0 m 0 ls []) := by
    intro q
    induction q with
    | zero => intro a d ρ H locs ls hq; exact absurd hq (by omega)
    | succ q ih =>
      intro a d ρ H locs ls hq hρ htt had hF hP hD hS hl
      refine lv_aload_n hx hb kd_M_go_0 rfl (lv_at hl 0 rfl) ?_
      refine kx_get (ci := 3) (fs := thisM ad n ρ) (v := .long ρ.2.2.2.2.1) hx hb hw ki_M hown hK hP kM_0 rfl rfl 15 (by decide) kw_256 rfl rfl kd_M_go_1 ?_
      refine lv_lload_n hx hb kd_M_go_4 rfl (lv_at hl 1 rfl) ?_
      refine W.lcmp hx hb kd_M_go_5 ?_
      refine lv_if_ge (tgt := 16) hx hb kd_M_go_6 (by decide) (fun c_1 => ?_) (fun c_1 => ?_)
      · have hd : d = 0 := go_ge htt had (by rw [← hρ]; exact c_1)
        subst hd
        exact W.vret hx hb hr (fun t ht hW => ⟨⟨ρ, rfl, by unfold mGoT; rw [he0]; exact hF.symm, by rw [ht]; exact hP, va_K.moved hW.alike hK, hD.weaken (fun _ _ _ _ => trivial)⟩, hS.F ht⟩) hS.2.2 kd_M_go_16
      · have hd : 0 < d := go_lt htt had (by rw [← hρ]; exact c_1)
        obtain ⟨d, rfl⟩ : ∃ d2, d = d2 + 1 := ⟨d - 1, by omega⟩
        refine lv_aload_n hx hb kd_M_go_9 rfl (lv_at hl 0 rfl) ?_
        refine kx_Vv (G := gM n ad cI cZ cL) (σ := ρ) (κ := (0, 0)) (ci := 3) (fs := thisM ad n ρ) (As := []) (rest := []) (n := 0) hx hb hml hown hts hT (ct_M_oneTick l D hn ad cI cZ cL ρ  H.size) kw_328 kw_330 ks_20 kw_5 kw_331 (by decide +kernel) ⟨rfl, rfl⟩ ⟨Nat.le_of_ble_eq_true rfl, Nat.le_of_ble_eq_true rfl⟩ hK hP hD hS kM_0 rfl rfl rfl hl.1 (Nat.le_of_ble_eq_true rfl) kd_M_go_10 rfl ⟨Nat.zero_le _, Nat.zero_le _⟩ (fun τ3 H locs hq4 hP hD hS => ?_)
        have hτ3 := hq4
        refine lv_goto (tgt := 0) hx hb kd_M_go_13 (by decide) ?_
        exact ih (a + 1) d _ _ _ _ (by omega) (by rw [← hτ3, now_mTk, hρ, lN_1]) (by rw [htt]; congr 1; omega) (by omega) (by rw [← hF, ← hτ3]; rfl) hP hD hS (lv_sub hl [0, 1] rfl)
  exact loop (d0 + 1) a d0 σ _ _ _ (by omega) ha ht0 (by omega) rfl hP hD hS hl
def mRqF (σ : MS) (v : Nat) (on : Int32) : Int32 × MS :=
  let s0 : MS := mC0 σ
  if (s0.1 v).2.2.2.1 = 0 then
    (let s1 : MS := setM s0 v ((s0.1 v).1, on, (s0.1 v).2.2.1, (s0.1 v).2.2.2.1, (s0.1 v).2.2.2.2.1, (s0.1 v).2.2.2.2.2.1, (s0.1 v).2.2.2.2.2.2.1, (s0.1 v).2.2.2.2.2.2.2.1, (s0.1 v).2.2.2.2.2.2.2.2.1, (s0.1 v).2.2.2.2.2.2.2.2.2)
     if mWn (s1.1 v) then (if (s1.1 v).1 ≥ 2 then ((s1.1 v).1, s1) else (((mWak s1 v).1 v).1, mWak s1 v)) else ((s1.1 v).1, s1))
  else (-3, s0)
set_option maxHeartbeats 4000000 in
set_option maxRecDepth 100000 in
theorem ct_M_request (l : Launch) (D : va_G) {n : Nat} (hn : 1 ≤ n ∧ n ≤ 64) (ad : Nat × Nat → Nat) (cI cZ cL : ClassId) (σ : MS) (k on : Int32) (hon : on = 0 ∨ on = 1) (sz : Nat) : Met l ky_M_request (km ky_M_request kc_M_request 3 (some .int)) ({ frames := 2, cells := 0, slots := 0, locals := 43 }) (mPre D n ad cI cZ cL σ [.ref (ad (0, 0)), .int k, .int on] sz) (mQi D n ad cI cZ cL sz (fun r τ => ndP n k (fun i => (r, τ) = mRqF σ (i + 1) on) ((r, τ) = (-1, mC0 σ)))) 0 0 (kA (kM) ad sz) := by
  refine Met.ofW (cc := kc_M_request) (maxL := 3) (ret := (some .int)) (by decide) rfl ?_
  intro p e s m args below meth c s₁ B hml hv
  obtain ⟨rfl, hsz, hP, hK, hD0⟩ := hv
  have hx := B.exec
  have hb := B.bytes
  have hr := B.returns
  have hts := atoms_spec (ws := km ky_M_request kc_M_request 3 (some .int)) B.pre
  have hT : ∀ w ∈ kB_l, w ∈ km ky_M_request kc_M_request 3 (some .int) := fun w h => List.mem_cons_of_mem _ h
  have hw := fun w h => hts w (hT w h)
  have hown : s.vm.findClass kR_M = some m.cls := findClass_of_methodNamed B.named
  have hlocks := B.notSynchronized
  subst hsz
  have hD : va_D (kA (kM) ad s.heap.size) (kW (kM) ad (gM n ad cI cZ cL σ)) := kD_any _ hD0
  have hS : va_S (kA (kM) ad s.heap.size) s.heap s.heap [] := va_S.rf
  have hl := lv_entry ([.ref (ad (0, 0)), .int k, .int on]) (n := 3) (Nat.le_of_ble_eq_true rfl)
  rw [lg_entry_eq]
  generalize (lg_sl ([.ref (ad (0, 0)), .int k, .int on]) ++ List.replicate (3 - (lg_sl ([.ref (ad (0, 0)), .int k, .int on])).length) Slot.unset).toArray = ls at hl ⊢
  have hl : lv_has ls 3 [(0, .ref (ad (0, 0))), (1, .int k), (2, .int on)] := hl
  refine lv_aload_n hx hb kd_M_request_0 rfl (lv_at hl 0 rfl) ?_
  refine lv_iload_n hx hb kd_M_request_1 rfl (lv_at hl 1 rfl) ?_
  refine kx_Vi (G := gM n ad cI cZ cL) (σ := σ) (κ := (0, 0)) (ci := 3) (fs := thisM ad n σ) (As := [.int k]) (rest := []) (n := 1) hx hb hml hown hts hT (ct_M_none l D hn ad cI cZ cL σ k s.heap.size) kw_299 kw_301 ks_14 kw_5 kw_302 (by decide +kernel) ⟨rfl, rfl⟩ ⟨Nat.le_of_ble_eq_true rfl, Nat.le_of_ble_eq_true rfl⟩ hK hP hD hS kM_0 rfl rfl rfl hl.1 (Nat.le_of_ble_eq_true rfl) kd_M_request_2 rfl ⟨Nat.zero_le _, Nat.zero_le _⟩ (fun r_1 τ2 H locs hq3 hP hD hS => ?_)
  obtain ⟨⟨rfl, i, hi, hk⟩ | ⟨rfl, hno⟩, hτ2⟩ := hq3
  · subst hk
    refine lv_if_eq (tgt := 10) hx hb kd_M_request_5 (by decide) (fun _ => ?_) (fun c0 => absurd (by decide) c0)
    refine lv_aload_n hx hb kd_M_request_10 rfl (lv_at hl 0 rfl) ?_
    refine kx_get (ci := 3) (fs := thisM ad n τ2) (v := .ref (ad (4, 0))) hx hb hw ki_M hown hK hP kM_0 rfl rfl 5 (by decide) kw_246 rfl rfl kd_M_request_11 ?_
    refine lv_iload_n hx hb kd_M_request_14 rfl (lv_at hl 1 rfl) ?_
    refine kx_zald (i := i + 1) hx hb hK hP kM_4 1 rfl rfl rfl (by omega) (by decide) kd_M_request_15 ?_
    refine lv_if_eq (tgt := 22) hx hb kd_M_request_16 (by decide) (fun c_4 => ?_) (fun c_4 => ?_)
    · refine lv_aload_n hx hb kd_M_request_22 rfl (lv_at hl 0 rfl) ?_
      refine kx_get (ci := 3) (fs := thisM ad n τ2) (v := .ref (ad (2, 0))) hx hb hw ki_M hown hK hP kM_0 rfl rfl 3 (by decide) kw_244 rfl rfl kd_M_request_23 ?_
      refine lv_iload_n hx hb kd_M_request_26 rfl (lv_at hl 1 rfl) ?_
      refine lv_iload_n hx hb kd_M_request_27 rfl (lv_at hl 2 rfl) ?_
      refine kx_zast (i := i + 1) (g2 := gM n ad cI cZ cL (setM τ2 (i + 1) ((τ2.1 (i + 1)).1, on, (τ2.1 (i + 1)).2.2.1, (τ2.1 (i + 1)).2.2.2.1, (τ2.1 (i + 1)).2.2.2.2.1, (τ2.1 (i + 1)).2.2.2.2.2.1, (τ2.1 (i + 1)).2.2.2.2.2.2.1, (τ2.1 (i + 1)).2.2.2.2.2.2.2.1, (τ2.1 (i + 1)).2.2.2.2.2.2.2.2.1, (τ2.1 (i + 1)).2.2.2.2.2.2.2.2.2))) hx hb hK hP hD hS kM_2 1 rfl rfl (nar_v hon) rfl (by omega) (by decide) gM_2 kd_M_request_28 (fun H locs hP hD hS => ?_)
      generalize hτ5 : (setM τ2 (i + 1) ((τ2.1 (i + 1)).1, on, (τ2.1 (i + 1)).2.2.1, (τ2.1 (i + 1)).2.2.2.1, (τ2.1 (i + 1)).2.2.2.2.1, (τ2.1 (i + 1)).2.2.2.2.2.1, (τ2.1 (i + 1)).2.2.2.2.2.2.1, (τ2.1 (i + 1)).2.2.2.2.2.2.2.1, (τ2.1 (i + 1)).2.2.2.2.2.2.2.2.1, (τ2.1 (i + 1)).2.2.2.2.2.2.2.2.2) : MS) = τ5 at hP hD
      refine lv_aload_n hx hb kd_M_request_29 rfl (lv_at hl 0 rfl) ?_
      refine lv_iload_n hx hb kd_M_request_30 rfl (lv_at hl 1 rfl) ?_
      refine kx_Vi (G := gM n ad cI cZ cL) (σ := τ5) (κ := (0, 0)) (ci := 3) (fs := thisM ad n τ5) (As := [.int (nI (i + 1))]) (rest := []) (n := 1) hx hb hml hown hts hT (ct_M_wants l D hn ad cI cZ cL τ5 (Nat.succ_pos i) hi H.size) kw_303 kw_305 ks_15 kw_5 kw_306 (by decide +kernel) ⟨rfl, rfl⟩ ⟨Nat.le_of_ble_eq_true rfl, Nat.le_of_ble_eq_true rfl⟩ hK hP hD hS kM_0 rfl rfl rfl hl.1 (Nat.le_of_ble_eq_true rfl) kd_M_request_31 rfl ⟨Nat.zero_le _, Nat.zero_le _⟩ (fun r_6 τ7 H locs hq8 hP hD hS => ?_)
      obtain ⟨⟨rfl, q_9⟩ | ⟨rfl, q_9⟩, rfl⟩ := hq8
      · refine lv_if_eq (tgt := 52) hx hb kd_M_request_34 (by decide) (fun c0 => absurd c0 (by decide)) (fun _ => ?_)
        refine lv_aload_n hx hb kd_M_request_37 rfl (lv_at hl 0 rfl) ?_
        refine kx_get (ci := 3) (fs := thisM ad n τ5) (v := .ref (ad (1, 0))) hx hb hw ki_M hown hK hP kM_0 rfl rfl 2 (by decide) kw_243 rfl rfl kd_M_request_38 ?_
        refine lv_iload_n hx hb kd_M_request_41 rfl (lv_at hl 1 rfl) ?_
        refine kx_iald (i := i + 1) hx hb hK hP kM_1 0 rfl rfl rfl (by omega) (by decide) kd_M_request_42 ?_
        refine lv_iconst (v := 2) hx hb kd_M_request_43 (by decide) ?_
        refine lv_icmp_ge (tgt := 52) hx hb kd_M_request_44 (by decide) (fun c_10 => ?_) (fun c_10 => ?_)
        · refine lv_aload_n hx hb kd_M_request_52 rfl (lv_at hl 0 rfl) ?_
          refine kx_get (ci := 3) (fs := thisM ad n τ5) (v := .ref (ad (1, 0))) hx hb hw ki_M hown hK hP kM_0 rfl rfl 2 (by decide) kw_243 rfl rfl kd_M_request_53 ?_
          refine lv_iload_n hx hb kd_M_request_56 rfl (lv_at hl 1 rfl) ?_
          refine kx_iald (i := i + 1) hx hb hK hP kM_1 0 rfl rfl rfl (by omega) (by decide) kd_M_request_57 ?_
          exact W.iret (v := (τ5.1 (i + 1)).1) hx hb hr (fun t ht hW => ⟨⟨(τ5.1 (i + 1)).1, τ5, rfl, ndP_y hn.2 hi rfl (by subst hτ2; subst hτ5; unfold mRqF; dsimp only; rw [if_pos c_4, if_pos q_9, if_pos c_10]), by rw [ht]; exact hP, va_K.moved hW.alike hK, hD.weaken (fun _ _ _ _ => trivial)⟩, hS.F ht⟩) hS.2.2 kd_M_request_58
        · refine lv_aload_n hx hb kd_M_request_47 rfl (lv_at hl 0 rfl) ?_
          refine lv_iload_n hx hb kd_M_request_48 rfl (lv_at hl 1 rfl) ?_
          refine kx_Vv (G := gM n ad cI cZ cL) (σ := τ5) (κ := (0, 0)) (ci := 3) (fs := thisM ad n τ5) (As := [.int (nI (i + 1))]) (rest := []) (n := 1) hx hb hml hown hts hT (ct_M_wakes l D hn ad cI cZ cL τ5 (Nat.succ_pos i) hi H.size) kw_307 kw_309 ks_16 kw_5 kw_310 (by decide +kernel) ⟨rfl, rfl⟩ ⟨Nat.le_of_ble_eq_true rfl, Nat.le_of_ble_eq_true rfl⟩ hK hP hD hS kM_0 rfl rfl rfl hl.1 (Nat.le_of_ble_eq_true rfl) kd_M_request_49 rfl ⟨Nat.zero_le _, Nat.zero_le _⟩ (fun τ12 H locs hq13 hP hD hS => ?_)
          have hτ12 := hq13
          refine lv_aload_n hx hb kd_M_request_52 rfl (lv_at hl 0 rfl) ?_
          refine kx_get (ci := 3) (fs := thisM ad n τ12) (v := .ref (ad (1, 0))) hx hb hw ki_M hown hK hP kM_0 rfl rfl 2 (by decide) kw_243 rfl rfl kd_M_request_53 ?_
          refine lv_iload_n hx hb kd_M_request_56 rfl (lv_at hl 1 rfl) ?_
          refine kx_iald (i := i + 1) hx hb hK hP kM_1 0 rfl rfl rfl (by omega) (by decide) kd_M_request_57 ?_
          exact W.iret (v := (τ12.1 (i + 1)).1) hx hb hr (fun t ht hW => ⟨⟨(τ12.1 (i + 1)).1, τ12, rfl, ndP_y hn.2 hi rfl (by subst hτ2; subst hτ5; subst hτ12; unfold mRqF; dsimp only; rw [if_pos c_4, if_pos q_9, if_neg c_10]), by rw [ht]; exact hP, va_K.moved hW.alike hK, hD.weaken (fun _ _ _ _ => trivial)⟩, hS.F ht⟩) hS.2.2 kd_M_request_58
      · refine lv_if_eq (tgt := 52) hx hb kd_M_request_34 (by decide) (fun _ => ?_) (fun c0 => absurd (by decide) c0)
        refine lv_aload_n hx hb kd_M_request_52 rfl (lv_at hl 0 rfl) ?_
        refine kx_get (ci := 3) (fs := thisM ad n τ5) (v := .ref (ad (1, 0))) hx hb hw ki_M hown hK hP kM_0 rfl rfl 2 (by decide) kw_243 rfl rfl kd_M_request_53 ?_
        refine lv_iload_n hx hb kd_M_request_56 rfl (lv_at hl 1 rfl) ?_
        refine kx_iald (i := i + 1) hx hb hK hP kM_1 0 rfl rfl rfl (by omega) (by decide) kd_M_request_57 ?_
        exact W.iret (v := (τ5.1 (i + 1)).1) hx hb hr (fun t ht hW => ⟨⟨(τ5.1 (i + 1)).1, τ5, rfl, ndP_y hn.2 hi rfl (by subst hτ2; subst hτ5; unfold mRqF; dsimp only; rw [if_pos c_4, if_neg q_9]), by rw [ht]; exact hP, va_K.moved hW.alike hK, hD.weaken (fun _ _ _ _ => trivial)⟩, hS.F ht⟩) hS.2.2 kd_M_request_58
    · refine lv_bipush (v := (-3)) hx hb kd_M_request_19 (by decide) ?_
      exact W.iret (v := (-3)) hx hb hr (fun t ht hW => ⟨⟨(-3), τ2, rfl, ndP_y hn.2 hi rfl (by subst hτ2; unfold mRqF; dsimp only; rw [if_neg c_4]), by rw [ht]; exact hP, va_K.moved hW.alike hK, hD.weaken (fun _ _ _ _ => trivial)⟩, hS.F ht⟩) hS.2.2 kd_M_request_21
  · refine lv_if_eq (tgt := 10) hx hb kd_M_request_5 (by decide) (fun c0 => absurd c0 (by decide)) (fun _ => ?_)
    refine lv_iconst (v := (-1)) hx hb kd_M_request_8 (by decide) ?_
    exact W.iret (v := (-1)) hx hb hr (fun t ht hW => ⟨⟨(-1), τ2, rfl, ndP_n hno (by rw [hτ2]), by rw [ht]; exact hP, va_K.moved hW.alike hK, hD.weaken (fun _ _ _ _ => trivial)⟩, hS.F ht⟩) hS.2.2 kd_M_request_9
def mAlF (n : Nat) (σ : MS) (v : Nat) (t : Int64) : Int32 × MS :=
  let s0 : MS := mC0 σ
  if okT s0.2.2.2.2.1 t then
    (if (s0.1 v).2.2.2.1 = 0 then (if (s0.1 v).2.2.1 = 0 then (if ((mGoT n s0 t).1 v).1 = 0 then (-3, mGoT n s0 t) else (mRwR n (mGoT n s0 t) v, mRwS n (mGoT n s0 t) v)) else (-3, s0)) else (-3, s0))
  else (-2, s0)
set_option maxHeartbeats 4000000 in
set_option maxRecDepth 100000 in
theorem ct_M_alive (l : Launch) (D : va_G) {n : Nat} (hn : 1 ≤ n ∧ n ≤ 64) (ad : Nat × Nat → Nat) (cI cZ cL : ClassId) (σ : MS) (k : Int32) (t : Int64) {a : Nat} (ha : σ.2.2.2.2.1 = lN a) (hA : a < 2 ^ 30) (sz : Nat) : Met l ky_M_alive (km ky_M_alive kc_M_alive 4 (some .int)) ({ frames := 5, cells := 0, slots := 0, locals := 111 }) (mPre D n ad cI cZ cL σ [.ref (ad (0, 0)), .int k, .long t] sz) (mQi D n ad cI cZ cL sz (fun r τ => ndP n k (fun i => (r, τ) = mAlF n σ (i + 1) t) ((r, τ) = (-1, mC0 σ)))) 0 0 (kA (kM) ad sz) := by
  refine Met.ofW (cc := kc_M_alive) (maxL := 4) (ret := (some .int)) (by decide) rfl ?_
  intro p e s m args below meth c s₁ B hml hv
  obtain ⟨rfl, hsz, hP, hK, hD0⟩ := hv
  have hx := B.exec
  have hb := B.bytes
  have hr := B.returns
  have hts := atoms_spec (ws := km ky_M_alive kc_M_alive 4 (some .int)) B.pre
  have hT : ∀ w ∈ kB_l, w ∈ km ky_M_alive kc_M_alive 4 (some .int) := fun w h => List.mem_cons_of_mem _ h
  have hw := fun w h => hts w (hT w h)
  have hown : s.vm.findClass kR_M = some m.cls := findClass_of_methodNamed B.named
  have hlocks := B.notSynchronized
  subst hsz
  have hD : va_D (kA (kM) ad s.heap.size) (kW (kM) ad (gM n ad cI cZ cL σ)) := kD_any _ hD0
  have hS : va_S (kA (kM) ad s.heap.size) s.heap s.heap [] := va_S.rf
  have hl := lv_entry ([.ref (ad (0, 0)), .int k, .long t]) (n := 4) (Nat.le_of_ble_eq_true rfl)
  rw [lg_entry_eq]
  generalize (lg_sl ([.ref (ad (0, 0)), .int k, .long t]) ++ List.replicate (4 - (lg_sl ([.ref (ad (0, 0)), .int k, .long t])).length) Slot.unset).toArray = ls at hl ⊢
  have hl : lv_has ls 4 [(0, .ref (ad (0, 0))), (1, .int k), (2, .long t)] := hl
  refine lv_aload_n hx hb kd_M_alive_0 rfl (lv_at hl 0 rfl) ?_
  refine lv_iload_n hx hb kd_M_alive_1 rfl (lv_at hl 1 rfl) ?_
  refine kx_Vi (G := gM n ad cI cZ cL) (σ := σ) (κ := (0, 0)) (ci := 3) (fs := thisM ad n σ) (As := [.int k]) (rest := []) (n := 1) hx hb hml hown hts hT (ct_M_none l D hn ad cI cZ cL σ k s.heap.size) kw_299 kw_301 ks_14 kw_5 kw_302 (by decide +kernel) ⟨rfl, rfl⟩ ⟨Nat.le_of_ble_eq_true rfl, Nat.le_of_ble_eq_true rfl⟩ hK hP hD hS kM_0 rfl rfl rfl hl.1 (Nat.le_of_ble_eq_true rfl) kd_M_alive_2 rfl ⟨Nat.zero_le _, Nat.zero_le _⟩ (fun r_1 τ2 H locs hq3 hP hD hS => ?_)
  obtain ⟨⟨rfl, i, hi, hk⟩ | ⟨rfl, hno⟩, hτ2⟩ := hq3
  · subst hk
    refine lv_if_eq (tgt := 10) hx hb kd_M_alive_5 (by decide) (fun _ => ?_) (fun c0 => absurd (by decide) c0)
    refine lv_aload_n hx hb kd_M_alive_10 rfl (lv_at hl 0 rfl) ?_
    refine lv_lload_n hx hb kd_M_alive_11 rfl (lv_at hl 2 rfl) ?_
    refine kx_Vi (G := gM n ad cI cZ cL) (σ := τ2) (κ := (0, 0)) (ci := 3) (fs := thisM ad n τ2) (As := [.long t]) (rest := []) (n := 1) hx hb hml hown hts hT (ct_M_bad l D hn ad cI cZ cL τ2 t H.size) kw_319 kw_321 ks_18 kw_5 kw_322 (by decide +kernel) ⟨rfl, rfl⟩ ⟨Nat.le_of_ble_eq_true rfl, Nat.le_of_ble_eq_true rfl⟩ hK hP hD hS kM_0 rfl rfl rfl hl.1 (Nat.le_of_ble_eq_true rfl) kd_M_alive_12 rfl ⟨Nat.zero_le _, Nat.zero_le _⟩ (fun r_4 τ5 H locs hq6 hP hD hS => ?_)
    obtain ⟨⟨rfl, q_7⟩ | ⟨rfl, q_7⟩, rfl⟩ := hq6
    · refine lv_if_eq (tgt := 21) hx hb kd_M_alive_15 (by decide) (fun _ => ?_) (fun c0 => absurd (by decide) c0)
      refine lv_aload_n hx hb kd_M_alive_21 rfl (lv_at hl 0 rfl) ?_
      refine kx_get (ci := 3) (fs := thisM ad n τ2) (v := .ref (ad (4, 0))) hx hb hw ki_M hown hK hP kM_0 rfl rfl 5 (by decide) kw_246 rfl rfl kd_M_alive_22 ?_
      refine lv_iload_n hx hb kd_M_alive_25 rfl (lv_at hl 1 rfl) ?_
      refine kx_zald (i := i + 1) hx hb hK hP kM_4 1 rfl rfl rfl (by omega) (by decide) kd_M_alive_26 ?_
      refine lv_if_ne (tgt := 39) hx hb kd_M_alive_27 (by decide) (fun c_8 => ?_) (fun c_8 => ?_)
      · refine lv_bipush (v := (-3)) hx hb kd_M_alive_39 (by decide) ?_
        exact W.iret (v := (-3)) hx hb hr (fun t ht hW => ⟨⟨(-3), τ2, rfl, ndP_y hn.2 hi rfl (by subst hτ2; unfold mAlF; dsimp only; rw [if_pos q_7, if_neg c_8]), by rw [ht]; exact hP, va_K.moved hW.alike hK, hD.weaken (fun _ _ _ _ => trivial)⟩, hS.F ht⟩) hS.2.2 kd_M_alive_41
      · refine lv_aload_n hx hb kd_M_alive_30 rfl (lv_at hl 0 rfl) ?_
        refine kx_get (ci := 3) (fs := thisM ad n τ2) (v := .ref (ad (3, 0))) hx hb hw ki_M hown hK hP kM_0 rfl rfl 4 (by decide) kw_245 rfl rfl kd_M_alive_31 ?_
        refine lv_iload_n hx hb kd_M_alive_34 rfl (lv_at hl 1 rfl) ?_
        refine kx_zald (i := i + 1) hx hb hK hP kM_3 1 rfl rfl rfl (by omega) (by decide) kd_M_alive_35 ?_
        refine lv_if_eq (tgt := 42) hx hb kd_M_alive_36 (by decide) (fun c_9 => ?_) (fun c_9 => ?_)
        · refine lv_aload_n hx hb kd_M_alive_42 rfl (lv_at hl 0 rfl) ?_
          refine lv_lload_n hx hb kd_M_alive_43 rfl (lv_at hl 2 rfl) ?_
          refine kx_Vv (G := gM n ad cI cZ cL) (σ := τ2) (κ := (0, 0)) (ci := 3) (fs := thisM ad n τ2) (As := [.long t]) (rest := []) (n := 1) hx hb hml hown hts hT (ct_M_go l D hn ad cI cZ cL τ2 t q_7 (by subst hτ2; exact ha) hA H.size) kw_324 kw_326 ks_19 kw_5 kw_327 (by decide +kernel) ⟨rfl, rfl⟩ ⟨Nat.le_of_ble_eq_true rfl, Nat.le_of_ble_eq_true rfl⟩ hK hP hD hS kM_0 rfl rfl rfl hl.1 (Nat.le_of_ble_eq_true rfl) kd_M_alive_44 rfl ⟨Nat.zero_le _, Nat.zero_le _⟩ (fun τ11 H locs hq12 hP hD hS => ?_)
          have hτ11 := hq12
          refine lv_aload_n hx hb kd_M_alive_47 rfl (lv_at hl 0 rfl) ?_
          refine kx_get (ci := 3) (fs := thisM ad n τ11) (v := .ref (ad (1, 0))) hx hb hw ki_M hown hK hP kM_0 rfl rfl 2 (by decide) kw_243 rfl rfl kd_M_alive_48 ?_
          refine lv_iload_n hx hb kd_M_alive_51 rfl (lv_at hl 1 rfl) ?_
          refine kx_iald (i := i + 1) hx hb hK hP kM_1 0 rfl rfl rfl (by omega) (by decide) kd_M_alive_52 ?_
          refine lv_if_ne (tgt := 61) hx hb kd_M_alive_53 (by decide) (fun c_13 => ?_) (fun c_13 => ?_)
          · refine lv_aload_n hx hb kd_M_alive_61 rfl (lv_at hl 0 rfl) ?_
            refine lv_iload_n hx hb kd_M_alive_62 rfl (lv_at hl 1 rfl) ?_
            refine kx_Vi (G := gM n ad cI cZ cL) (σ := τ11) (κ := (0, 0)) (ci := 3) (fs := thisM ad n τ11) (As := [.int (nI (i + 1))]) (rest := []) (n := 1) hx hb hml hown hts hT (ct_M_row l D hn ad cI cZ cL τ11 (Nat.succ_pos i) hi H.size) kw_347 kw_349 ks_23 kw_5 kw_350 (by decide +kernel) ⟨rfl, rfl⟩ ⟨Nat.le_of_ble_eq_true rfl, Nat.le_of_ble_eq_true rfl⟩ hK hP hD hS kM_0 rfl rfl rfl hl.1 (Nat.le_of_ble_eq_true rfl) kd_M_alive_63 rfl ⟨Nat.zero_le _, Nat.zero_le _⟩ (fun r_14 τ15 H locs hq16 hP hD hS => ?_)
            obtain ⟨hr_14, hτ15⟩ := hq16
            exact W.iret (v := r_14) hx hb hr (fun t ht hW => ⟨⟨r_14, τ15, rfl, ndP_y hn.2 hi rfl (by rw [hr_14]; subst hτ2; subst hτ11; subst hτ15; unfold mAlF; dsimp only; rw [if_pos q_7, if_pos c_8, if_pos c_9, if_neg c_13]), by rw [ht]; exact hP, va_K.moved hW.alike hK, hD.weaken (fun _ _ _ _ => trivial)⟩, hS.F ht⟩) hS.2.2 kd_M_alive_66
          · refine lv_bipush (v := (-3)) hx hb kd_M_alive_56 (by decide) ?_
            refine lv_goto (tgt := 66) hx hb kd_M_alive_58 (by decide) ?_
            exact W.iret (v := (-3)) hx hb hr (fun t ht hW => ⟨⟨(-3), τ11, rfl, ndP_y hn.2 hi rfl (by subst hτ2; subst hτ11; unfold mAlF; dsimp only; rw [if_pos q_7, if_pos c_8, if_pos c_9, if_pos c_13]), by rw [ht]; exact hP, va_K.moved hW.alike hK, hD.weaken (fun _ _ _ _ => trivial)⟩, hS.F ht⟩) hS.2.2 kd_M_alive_66
        · refine lv_bipush (v := (-3)) hx hb kd_M_alive_39 (by decide) ?_
          exact W.iret (v := (-3)) hx hb hr (fun t ht hW => ⟨⟨(-3), τ2, rfl, ndP_y hn.2 hi rfl (by subst hτ2; unfold mAlF; dsimp only; rw [if_pos q_7, if_pos c_8, if_neg c_9]), by rw [ht]; exact hP, va_K.moved hW.alike hK, hD.weaken (fun _ _ _ _ => trivial)⟩, hS.F ht⟩) hS.2.2 kd_M_alive_41
    · refine lv_if_eq (tgt := 21) hx hb kd_M_alive_15 (by decide) (fun c0 => absurd c0 (by decide)) (fun _ => ?_)
      refine lv_bipush (v := (-2)) hx hb kd_M_alive_18 (by decide) ?_
      exact W.iret (v := (-2)) hx hb hr (fun t ht hW => ⟨⟨(-2), τ2, rfl, ndP_y hn.2 hi rfl (by subst hτ2; unfold mAlF; dsimp only; rw [if_neg q_7]), by rw [ht]; exact hP, va_K.moved hW.alike hK, hD.weaken (fun _ _ _ _ => trivial)⟩, hS.F ht⟩) hS.2.2 kd_M_alive_20
  · refine lv_if_eq (tgt := 10) hx hb kd_M_alive_5 (by decide) (fun c0 => absurd c0 (by decide)) (fun _ => ?_)
    refine lv_iconst (v := (-1)) hx hb kd_M_alive_8 (by decide) ?_
    exact W.iret (v := (-1)) hx hb hr (fun t ht hW => ⟨⟨(-1), τ2, rfl, ndP_n hno (by rw [hτ2]), by rw [ht]; exact hP, va_K.moved hW.alike hK, hD.weaken (fun _ _ _ _ => trivial)⟩, hS.F ht⟩) hS.2.2 kd_M_alive_9
def mTiF (n : Nat) (σ : MS) (t : Int64) : Int32 × MS :=
  let s0 : MS := mC0 σ
  if okT s0.2.2.2.2.1 t then
    (let s1 : MS := (s0.1, s0.2.1, s0.2.2.1, s0.2.2.2.1, s0.2.2.2.2.1, 0, s0.2.2.2.2.2.2)
     ((mGoT n s1 t).2.2.2.2.2.1, mGoT n s1 t))
  else (-2, s0)
set_option maxHeartbeats 4000000 in
set_option maxRecDepth 100000 in
theorem ct_M_tick (l : Launch) (D : va_G) {n : Nat} (hn : 1 ≤ n ∧ n ≤ 64) (ad : Nat × Nat → Nat) (cI cZ cL : ClassId) (σ : MS) (t : Int64) {a : Nat} (ha : σ.2.2.2.2.1 = lN a) (hA : a < 2 ^ 30) (sz : Nat) : Met l ky_M_tick (km ky_M_tick kc_M_tick 3 (some .int)) ({ frames := 5, cells := 0, slots := 0, locals := 111 }) (mPre D n ad cI cZ cL σ [.ref (ad (0, 0)), .long t] sz) (mQi D n ad cI cZ cL sz (fun r τ => (r, τ) = mTiF n σ t)) 0 0 (kA (kM) ad sz) := by
  refine Met.ofW (cc := kc_M_tick) (maxL := 3) (ret := (some .int)) (by decide) rfl ?_
  intro p e s m args below meth c s₁ B hml hv
  obtain ⟨rfl, hsz, hP, hK, hD0⟩ := hv
  have hx := B.exec
  have hb := B.bytes
  have hr := B.returns
  have hts := atoms_spec (ws := km ky_M_tick kc_M_tick 3 (some .int)) B.pre
  have hT : ∀ w ∈ kB_l, w ∈ km ky_M_tick kc_M_tick 3 (some .int) := fun w h => List.mem_cons_of_mem _ h
  have hw := fun w h => hts w (hT w h)
  have hown : s.vm.findClass kR_M = some m.cls := findClass_of_methodNamed B.named
  have hlocks := B.notSynchronized
  subst hsz
  have hD : va_D (kA (kM) ad s.heap.size) (kW (kM) ad (gM n ad cI cZ cL σ)) := kD_any _ hD0
  have hS : va_S (kA (kM) ad s.heap.size) s.heap s.heap [] := va_S.rf
  have hl := lv_entry ([.ref (ad (0, 0)), .long t]) (n := 3) (Nat.le_of_ble_eq_true rfl)
  rw [lg_entry_eq]
  generalize (lg_sl ([.ref (ad (0, 0)), .long t]) ++ List.replicate (3 - (lg_sl ([.ref (ad (0, 0)), .long t])).length) Slot.unset).toArray = ls at hl ⊢
  have hl : lv_has ls 3 [(0, .ref (ad (0, 0))), (1, .long t)] := hl
  refine lv_aload_n hx hb kd_M_tick_0 rfl (lv_at hl 0 rfl) ?_
  refine lv_iconst (v := 0) hx hb kd_M_tick_1 (by decide) ?_
  refine kx_put (ci := 3) (fs := thisM ad n σ) (v := .int 0) (g2 := gM n ad cI cZ cL (σ.1, σ.2.1, σ.2.2.1, σ.2.2.2.1, σ.2.2.2.2.1, σ.2.2.2.2.2.1, 0)) hx hb hw ki_M kt_M ko_M kn_M hown hK hP hD hS kM_0 rfl rfl 0 (by decide) kw_241 rfl rfl rfl rfl (Nat.le_of_ble_eq_true rfl) (gM_S rfl) kd_M_tick_2 (fun H locs hP hD hS => ?_)
  generalize hτ1 : ((σ.1, σ.2.1, σ.2.2.1, σ.2.2.2.1, σ.2.2.2.2.1, σ.2.2.2.2.2.1, 0) : MS) = τ1 at hP hD
  refine lv_aload_n hx hb kd_M_tick_5 rfl (lv_at hl 0 rfl) ?_
  refine lv_lload_n hx hb kd_M_tick_6 rfl (lv_at hl 1 rfl) ?_
  refine kx_Vi (G := gM n ad cI cZ cL) (σ := τ1) (κ := (0, 0)) (ci := 3) (fs := thisM ad n τ1) (As := [.long t]) (rest := []) (n := 1) hx hb hml hown hts hT (ct_M_bad l D hn ad cI cZ cL τ1 t H.size) kw_319 kw_321 ks_18 kw_5 kw_322 (by decide +kernel) ⟨rfl, rfl⟩ ⟨Nat.le_of_ble_eq_true rfl, Nat.le_of_ble_eq_true rfl⟩ hK hP hD hS kM_0 rfl rfl rfl hl.1 (Nat.le_of_ble_eq_true rfl) kd_M_tick_7 rfl ⟨Nat.zero_le _, Nat.zero_le _⟩ (fun r_2 τ3 H locs hq4 hP hD hS => ?_)
  obtain ⟨⟨rfl, q_5⟩ | ⟨rfl, q_5⟩, rfl⟩ := hq4
  · refine lv_if_eq (tgt := 16) hx hb kd_M_tick_10 (by decide) (fun _ => ?_) (fun c0 => absurd (by decide) c0)
    refine lv_aload_n hx hb kd_M_tick_16 rfl (lv_at hl 0 rfl) ?_
    refine lv_iconst (v := 0) hx hb kd_M_tick_17 (by decide) ?_
    refine kx_put (ci := 3) (fs := thisM ad n τ1) (v := .int 0) (g2 := gM n ad cI cZ cL (τ1.1, τ1.2.1, τ1.2.2.1, τ1.2.2.2.1, τ1.2.2.2.2.1, 0, τ1.2.2.2.2.2.2)) hx hb hw ki_M kt_M ko_M kn_M hown hK hP hD hS kM_0 rfl rfl 16 (by decide) kw_257 rfl rfl rfl rfl (Nat.le_of_ble_eq_true rfl) (gM_S rfl) kd_M_tick_18 (fun H locs hP hD hS => ?_)
    generalize hτ6 : ((τ1.1, τ1.2.1, τ1.2.2.1, τ1.2.2.2.1, τ1.2.2.2.2.1, 0, τ1.2.2.2.2.2.2) : MS) = τ6 at hP hD
    refine lv_aload_n hx hb kd_M_tick_21 rfl (lv_at hl 0 rfl) ?_
    refine lv_lload_n hx hb kd_M_tick_22 rfl (lv_at hl 1 rfl) ?_
    refine kx_Vv (G := gM n ad cI cZ cL) (σ := τ6) (κ := (0, 0)) (ci := 3) (fs := thisM ad n τ6) (As := [.long t]) (rest := []) (n := 1) hx hb hml hown hts hT (ct_M_go l D hn ad cI cZ cL τ6 t (by subst hτ1; subst hτ6; exact q_5) (by subst hτ1; subst hτ6; exact ha) hA H.size) kw_324 kw_326 ks_19 kw_5 kw_327 (by decide +kernel) ⟨rfl, rfl⟩ ⟨Nat.le_of_ble_eq_true rfl, Nat.le_of_ble_eq_true rfl⟩ hK hP hD hS kM_0 rfl rfl rfl hl.1 (Nat.le_of_ble_eq_true rfl) kd_M_tick_23 rfl ⟨Nat.zero_le _, Nat.zero_le _⟩ (fun τ8 H locs hq9 hP hD hS => ?_)
    have hτ8 := hq9
    refine lv_aload_n hx hb kd_M_tick_26 rfl (lv_at hl 0 rfl) ?_
    refine kx_get (ci := 3) (fs := thisM ad n τ8) (v := .int τ8.2.2.2.2.2.1) hx hb hw ki_M hown hK hP kM_0 rfl rfl 16 (by decide) kw_257 rfl rfl kd_M_tick_27 ?_
    exact W.iret (v := τ8.2.2.2.2.2.1) hx hb hr (fun t ht hW => ⟨⟨τ8.2.2.2.2.2.1, τ8, rfl, by subst hτ1; subst hτ6; subst hτ8; unfold mTiF; dsimp only [mC0]; rw [if_pos q_5], by rw [ht]; exact hP, va_K.moved hW.alike hK, hD.weaken (fun _ _ _ _ => trivial)⟩, hS.F ht⟩) hS.2.2 kd_M_tick_30
  · refine lv_if_eq (tgt := 16) hx hb kd_M_tick_10 (by decide) (fun c0 => absurd c0 (by decide)) (fun _ => ?_)
    refine lv_bipush (v := (-2)) hx hb kd_M_tick_13 (by decide) ?_
    exact W.iret (v := (-2)) hx hb hr (fun t ht hW => ⟨⟨(-2), τ1, rfl, by subst hτ1; unfold mTiF; dsimp only [mC0]; rw [if_neg q_5], by rw [ht]; exact hP, va_K.moved hW.alike hK, hD.weaken (fun _ _ _ _ => trivial)⟩, hS.F ht⟩) hS.2.2 kd_M_tick_15
def mStF (σ : MS) (v : Nat) : Int32 × MS := (((mC0 σ).1 v).1, mC0 σ)
def mPaF (σ : MS) (v : Nat) (on : Int32) : Int32 × MS := let s0 : MS := mC0 σ; let s1 : MS := setM s0 v ((s0.1 v).1, (s0.1 v).2.1, on, (s0.1 v).2.2.2.1, (s0.1 v).2.2.2.2.1, (s0.1 v).2.2.2.2.2.1, (s0.1 v).2.2.2.2.2.2.1, (s0.1 v).2.2.2.2.2.2.2.1, (s0.1 v).2.2.2.2.2.2.2.2.1, (s0.1 v).2.2.2.2.2.2.2.2.2); ((s1.1 v).1, s1)
set_option maxHeartbeats 4000000 in
set_option maxRecDepth 100000 in
theorem ct_M_state (l : Launch) (D : va_G) {n : Nat} (hn : 1 ≤ n ∧ n ≤ 64) (ad : Nat × Nat → Nat) (cI cZ cL : ClassId) (σ : MS) (k : Int32) (sz : Nat) : Met l ky_M_state (km ky_M_state kc_M_state 2 (some .int)) ({ frames := 1, cells := 0, slots := 0, locals := 21 }) (mPre D n ad cI cZ cL σ [.ref (ad (0, 0)), .int k] sz) (mQi D n ad cI cZ cL sz (fun r τ => ndP n k (fun i => (r, τ) = mStF σ (i + 1) ) ((r, τ) = (-1, mC0 σ)))) 0 0 (kA (kM) ad sz) := by
  refine Met.ofW (cc := kc_M_state) (maxL := 2) (ret := (some .int)) (by decide) rfl ?_
  intro p e s m args below meth c s₁ B hml hv
  obtain ⟨rfl, hsz, hP, hK, hD0⟩ := hv
  have hx := B.exec
  have hb := B.bytes
  have hr := B.returns
  have hts := atoms_spec (ws := km ky_M_state kc_M_state 2 (some .int)) B.pre
  have hT : ∀ w ∈ kB_l, w ∈ km ky_M_state kc_M_state 2 (some .int) := fun w h => List.mem_cons_of_mem _ h
  have hw := fun w h => hts w (hT w h)
  have hown : s.vm.findClass kR_M = some m.cls := findClass_of_methodNamed B.named
  have hlocks := B.notSynchronized
  subst hsz
  have hD : va_D (kA (kM) ad s.heap.size) (kW (kM) ad (gM n ad cI cZ cL σ)) := kD_any _ hD0
  have hS : va_S (kA (kM) ad s.heap.size) s.heap s.heap [] := va_S.rf
  have hl := lv_entry ([.ref (ad (0, 0)), .int k]) (n := 2) (Nat.le_of_ble_eq_true rfl)
  rw [lg_entry_eq]
  generalize (lg_sl ([.ref (ad (0, 0)), .int k]) ++ List.replicate (2 - (lg_sl ([.ref (ad (0, 0)), .int k])).length) Slot.unset).toArray = ls at hl ⊢
  have hl : lv_has ls 2 [(0, .ref (ad (0, 0))), (1, .int k)] := hl
  refine lv_aload_n hx hb kd_M_state_0 rfl (lv_at hl 0 rfl) ?_
  refine lv_iload_n hx hb kd_M_state_1 rfl (lv_at hl 1 rfl) ?_
  refine kx_Vi (G := gM n ad cI cZ cL) (σ := σ) (κ := (0, 0)) (ci := 3) (fs := thisM ad n σ) (As := [.int k]) (rest := []) (n := 1) hx hb hml hown hts hT (ct_M_none l D hn ad cI cZ cL σ k s.heap.size) kw_299 kw_301 ks_14 kw_5 kw_302 (by decide +kernel) ⟨rfl, rfl⟩ ⟨Nat.le_of_ble_eq_true rfl, Nat.le_of_ble_eq_true rfl⟩ hK hP hD hS kM_0 rfl rfl rfl hl.1 (Nat.le_of_ble_eq_true rfl) kd_M_state_2 rfl ⟨Nat.zero_le _, Nat.zero_le _⟩ (fun r_1 τ2 H locs hq3 hP hD hS => ?_)
  obtain ⟨⟨rfl, i, hi, hk⟩ | ⟨rfl, hno⟩, hτ2⟩ := hq3
  · subst hk
    refine lv_if_eq (tgt := 12) hx hb kd_M_state_5 (by decide) (fun _ => ?_) (fun c0 => absurd (by decide) c0)
    refine lv_aload_n hx hb kd_M_state_12 rfl (lv_at hl 0 rfl) ?_
    refine kx_get (ci := 3) (fs := thisM ad n τ2) (v := .ref (ad (1, 0))) hx hb hw ki_M hown hK hP kM_0 rfl rfl 2 (by decide) kw_243 rfl rfl kd_M_state_13 ?_
    refine lv_iload_n hx hb kd_M_state_16 rfl (lv_at hl 1 rfl) ?_
    refine kx_iald (i := i + 1) hx hb hK hP kM_1 0 rfl rfl rfl (by omega) (by decide) kd_M_state_17 ?_
    exact W.iret (v := (τ2.1 (i + 1)).1) hx hb hr (fun t ht hW => ⟨⟨(τ2.1 (i + 1)).1, τ2, rfl, ndP_y hn.2 hi rfl (by subst hτ2; unfold mStF; rfl), by rw [ht]; exact hP, va_K.moved hW.alike hK, hD.weaken (fun _ _ _ _ => trivial)⟩, hS.F ht⟩) hS.2.2 kd_M_state_18
  · refine lv_if_eq (tgt := 12) hx hb kd_M_state_5 (by decide) (fun c0 => absurd c0 (by decide)) (fun _ => ?_)
    refine lv_iconst (v := (-1)) hx hb kd_M_state_8 (by decide) ?_
    refine lv_goto (tgt := 18) hx hb kd_M_state_9 (by decide) ?_
    exact W.iret (v := (-1)) hx hb hr (fun t ht hW => ⟨⟨(-1), τ2, rfl, ndP_n hno (by rw [hτ2]), by rw [ht]; exact hP, va_K.moved hW.alike hK, hD.weaken (fun _ _ _ _ => trivial)⟩, hS.F ht⟩) hS.2.2 kd_M_state_18
set_option maxHeartbeats 4000000 in
set_option maxRecDepth 100000 in
theorem ct_M_passive (l : Launch) (D : va_G) {n : Nat} (hn : 1 ≤ n ∧ n ≤ 64) (ad : Nat × Nat → Nat) (cI cZ cL : ClassId) (σ : MS) (k on : Int32) (hon : on = 0 ∨ on = 1) (sz : Nat) : Met l ky_M_passive (km ky_M_passive kc_M_passive 3 (some .int)) ({ frames := 1, cells := 0, slots := 0, locals := 21 }) (mPre D n ad cI cZ cL σ [.ref (ad (0, 0)), .int k, .int on] sz) (mQi D n ad cI cZ cL sz (fun r τ => ndP n k (fun i => (r, τ) = mPaF σ (i + 1) on) ((r, τ) = (-1, mC0 σ)))) 0 0 (kA (kM) ad sz) := by
  refine Met.ofW (cc := kc_M_passive) (maxL := 3) (ret := (some .int)) (by decide) rfl ?_
  intro p e s m args below meth c s₁ B hml hv
  obtain ⟨rfl, hsz, hP, hK, hD0⟩ := hv
  have hx := B.exec
  have hb := B.bytes
  have hr := B.returns
  have hts := atoms_spec (ws := km ky_M_passive kc_M_passive 3 (some .int)) B.pre
  have hT : ∀ w ∈ kB_l, w ∈ km ky_M_passive kc_M_passive 3 (some .int) := fun w h => List.mem_cons_of_mem _ h
  have hw := fun w h => hts w (hT w h)
  have hown : s.vm.findClass kR_M = some m.cls := findClass_of_methodNamed B.named
  have hlocks := B.notSynchronized
  subst hsz
  have hD : va_D (kA (kM) ad s.heap.size) (kW (kM) ad (gM n ad cI cZ cL σ)) := kD_any _ hD0
  have hS : va_S (kA (kM) ad s.heap.size) s.heap s.heap [] := va_S.rf
  have hl := lv_entry ([.ref (ad (0, 0)), .int k, .int on]) (n := 3) (Nat.le_of_ble_eq_true rfl)
  rw [lg_entry_eq]
  generalize (lg_sl ([.ref (ad (0, 0)), .int k, .int on]) ++ List.replicate (3 - (lg_sl ([.ref (ad (0, 0)), .int k, .int on])).length) Slot.unset).toArray = ls at hl ⊢
  have hl : lv_has ls 3 [(0, .ref (ad (0, 0))), (1, .int k), (2, .int on)] := hl
  refine lv_aload_n hx hb kd_M_passive_0 rfl (lv_at hl 0 rfl) ?_
  refine lv_iload_n hx hb kd_M_passive_1 rfl (lv_at hl 1 rfl) ?_
  refine kx_Vi (G := gM n ad cI cZ cL) (σ := σ) (κ := (0, 0)) (ci := 3) (fs := thisM ad n σ) (As := [.int k]) (rest := []) (n := 1) hx hb hml hown hts hT (ct_M_none l D hn ad cI cZ cL σ k s.heap.size) kw_299 kw_301 ks_14 kw_5 kw_302 (by decide +kernel) ⟨rfl, rfl⟩ ⟨Nat.le_of_ble_eq_true rfl, Nat.le_of_ble_eq_true rfl⟩ hK hP hD hS kM_0 rfl rfl rfl hl.1 (Nat.le_of_ble_eq_true rfl) kd_M_passive_2 rfl ⟨Nat.zero_le _, Nat.zero_le _⟩ (fun r_1 τ2 H locs hq3 hP hD hS => ?_)
  obtain ⟨⟨rfl, i, hi, hk⟩ | ⟨rfl, hno⟩, hτ2⟩ := hq3
  · subst hk
    refine lv_if_eq (tgt := 10) hx hb kd_M_passive_5 (by decide) (fun _ => ?_) (fun c0 => absurd (by decide) c0)
    refine lv_aload_n hx hb kd_M_passive_10 rfl (lv_at hl 0 rfl) ?_
    refine kx_get (ci := 3) (fs := thisM ad n τ2) (v := .ref (ad (3, 0))) hx hb hw ki_M hown hK hP kM_0 rfl rfl 4 (by decide) kw_245 rfl rfl kd_M_passive_11 ?_
    refine lv_iload_n hx hb kd_M_passive_14 rfl (lv_at hl 1 rfl) ?_
    refine lv_iload_n hx hb kd_M_passive_15 rfl (lv_at hl 2 rfl) ?_
    refine kx_zast (i := i + 1) (g2 := gM n ad cI cZ cL (setM τ2 (i + 1) ((τ2.1 (i + 1)).1, (τ2.1 (i + 1)).2.1, on, (τ2.1 (i + 1)).2.2.2.1, (τ2.1 (i + 1)).2.2.2.2.1, (τ2.1 (i + 1)).2.2.2.2.2.1, (τ2.1 (i + 1)).2.2.2.2.2.2.1, (τ2.1 (i + 1)).2.2.2.2.2.2.2.1, (τ2.1 (i + 1)).2.2.2.2.2.2.2.2.1, (τ2.1 (i + 1)).2.2.2.2.2.2.2.2.2))) hx hb hK hP hD hS kM_3 1 rfl rfl (nar_v hon) rfl (by omega) (by decide) gM_3 kd_M_passive_16 (fun H locs hP hD hS => ?_)
    generalize hτ4 : (setM τ2 (i + 1) ((τ2.1 (i + 1)).1, (τ2.1 (i + 1)).2.1, on, (τ2.1 (i + 1)).2.2.2.1, (τ2.1 (i + 1)).2.2.2.2.1, (τ2.1 (i + 1)).2.2.2.2.2.1, (τ2.1 (i + 1)).2.2.2.2.2.2.1, (τ2.1 (i + 1)).2.2.2.2.2.2.2.1, (τ2.1 (i + 1)).2.2.2.2.2.2.2.2.1, (τ2.1 (i + 1)).2.2.2.2.2.2.2.2.2) : MS) = τ4 at hP hD
    refine lv_aload_n hx hb kd_M_passive_17 rfl (lv_at hl 0 rfl) ?_
    refine kx_get (ci := 3) (fs := thisM ad n τ4) (v := .ref (ad (1, 0))) hx hb hw ki_M hown hK hP kM_0 rfl rfl 2 (by decide) kw_243 rfl rfl kd_M_passive_18 ?_
    refine lv_iload_n hx hb kd_M_passive_21 rfl (lv_at hl 1 rfl) ?_
    refine kx_iald (i := i + 1) hx hb hK hP kM_1 0 rfl rfl rfl (by omega) (by decide) kd_M_passive_22 ?_
    exact W.iret (v := (τ4.1 (i + 1)).1) hx hb hr (fun t ht hW => ⟨⟨(τ4.1 (i + 1)).1, τ4, rfl, ndP_y hn.2 hi rfl (by subst hτ2; subst hτ4; unfold mPaF; rfl), by rw [ht]; exact hP, va_K.moved hW.alike hK, hD.weaken (fun _ _ _ _ => trivial)⟩, hS.F ht⟩) hS.2.2 kd_M_passive_23
  · refine lv_if_eq (tgt := 10) hx hb kd_M_passive_5 (by decide) (fun c0 => absurd c0 (by decide)) (fun _ => ?_)
    refine lv_iconst (v := (-1)) hx hb kd_M_passive_8 (by decide) ?_
    exact W.iret (v := (-1)) hx hb hr (fun t ht hW => ⟨⟨(-1), τ2, rfl, ndP_n hno (by rw [hτ2]), by rw [ht]; exact hP, va_K.moved hW.alike hK, hD.weaken (fun _ _ _ _ => trivial)⟩, hS.F ht⟩) hS.2.2 kd_M_passive_9
def mWkL (f : Int32) (σ : MS) : Nat → MS × Int32
  | 0 => (σ, 0)
  | k + 1 =>
    if nI (k + 1) - nI (k + 1) / 16 * 16 = f - f / 16 * 16 then
      (if ((mWkL f σ k).1.1 (k + 1)).2.2.2.1 = 0 then (if ((mWkL f σ k).1.1 (k + 1)).1 ≥ 2 then mWkL f σ k else (mWak (mWkL f σ k).1 (k + 1), (mWkL f σ k).2 + 1)) else mWkL f σ k)
    else mWkL f σ k
def mWaF (n : Nat) (σ : MS) (f : Int32) (t : Int64) : Int32 × MS :=
  let s0 : MS := mC0 σ
  if f < 0 then (-2, s0) else if f > 2047 then (-2, s0) else if okT s0.2.2.2.2.1 t then ((mWkL f (mGoT n s0 t) n).2, (mWkL f (mGoT n s0 t) n).1) else (-2, s0)
set_option maxHeartbeats 4000000 in
set_option maxRecDepth 100000 in
theorem ct_M_wake (l : Launch) (D : va_G) {n : Nat} (hn : 1 ≤ n ∧ n ≤ 64) (ad : Nat × Nat → Nat) (cI cZ cL : ClassId) (σ : MS) (f : Int32) (t : Int64) {a : Nat} (ha : σ.2.2.2.2.1 = lN a) (hA : a < 2 ^ 30) (sz : Nat) : Met l ky_M_wake (km ky_M_wake kc_M_wake 6 (some .int)) ({ frames := 5, cells := 0, slots := 0, locals := 111 }) (mPre D n ad cI cZ cL σ [.ref (ad (0, 0)), .int f, .long t] sz) (mQi D n ad cI cZ cL sz (fun r τ => (r, τ) = mWaF n σ f t)) 0 0 (kA (kM) ad sz) := by
  refine Met.ofW (cc := kc_M_wake) (maxL := 6) (ret := (some .int)) (by decide) rfl ?_
  intro p e s m args below meth c s₁ B hml hv
  obtain ⟨rfl, hsz, hP, hK, hD0⟩ := hv
  have hx := B.exec
  have hb := B.bytes
  have hr := B.returns
  have hts := atoms_spec (ws := km ky_M_wake kc_M_wake 6 (some .int)) B.pre
  have hT : ∀ w ∈ kB_l, w ∈ km ky_M_wake kc_M_wake 6 (some .int) := fun w h => List.mem_cons_of_mem _ h
  have hw := fun w h => hts w (hT w h)
  have hown : s.vm.findClass kR_M = some m.cls := findClass_of_methodNamed B.named
  have hlocks := B.notSynchronized
  subst hsz
  have hD : va_D (kA (kM) ad s.heap.size) (kW (kM) ad (gM n ad cI cZ cL σ)) := kD_any _ hD0
  have hS : va_S (kA (kM) ad s.heap.size) s.heap s.heap [] := va_S.rf
  have hl := lv_entry ([.ref (ad (0, 0)), .int f, .long t]) (n := 6) (Nat.le_of_ble_eq_true rfl)
  rw [lg_entry_eq]
  generalize (lg_sl ([.ref (ad (0, 0)), .int f, .long t]) ++ List.replicate (6 - (lg_sl ([.ref (ad (0, 0)), .int f, .long t])).length) Slot.unset).toArray = ls at hl ⊢
  have hl : lv_has ls 6 [(0, .ref (ad (0, 0))), (1, .int f), (2, .long t)] := hl
  refine lv_aload_n hx hb kd_M_wake_0 rfl (lv_at hl 0 rfl) ?_
  refine lv_iconst (v := 0) hx hb kd_M_wake_1 (by decide) ?_
  refine kx_put (ci := 3) (fs := thisM ad n σ) (v := .int 0) (g2 := gM n ad cI cZ cL (σ.1, σ.2.1, σ.2.2.1, σ.2.2.2.1, σ.2.2.2.2.1, σ.2.2.2.2.2.1, 0)) hx hb hw ki_M kt_M ko_M kn_M hown hK hP hD hS kM_0 rfl rfl 0 (by decide) kw_241 rfl rfl rfl rfl (Nat.le_of_ble_eq_true rfl) (gM_S rfl) kd_M_wake_2 (fun H locs hP hD hS => ?_)
  generalize hτ1 : ((σ.1, σ.2.1, σ.2.2.1, σ.2.2.2.1, σ.2.2.2.2.1, σ.2.2.2.2.2.1, 0) : MS) = τ1 at hP hD
  refine lv_iload_n hx hb kd_M_wake_5 rfl (lv_at hl 1 rfl) ?_
  refine lv_if_lt (tgt := 24) hx hb kd_M_wake_6 (by decide) (fun c_2 => ?_) (fun c_2 => ?_)
  · refine lv_bipush (v := (-2)) hx hb kd_M_wake_24 (by decide) ?_
    exact W.iret (v := (-2)) hx hb hr (fun t ht hW => ⟨⟨(-2), τ1, rfl, by subst hτ1; unfold mWaF; dsimp only [mC0]; rw [if_pos c_2], by rw [ht]; exact hP, va_K.moved hW.alike hK, hD.weaken (fun _ _ _ _ => trivial)⟩, hS.F ht⟩) hS.2.2 kd_M_wake_26
  · refine lv_iload_n hx hb kd_M_wake_9 rfl (lv_at hl 1 rfl) ?_
    refine lv_sipush (v := 2047) hx hb kd_M_wake_10 (by decide) ?_
    refine lv_icmp_gt (tgt := 24) hx hb kd_M_wake_13 (by decide) (fun c_3 => ?_) (fun c_3 => ?_)
    · refine lv_bipush (v := (-2)) hx hb kd_M_wake_24 (by decide) ?_
      exact W.iret (v := (-2)) hx hb hr (fun t ht hW => ⟨⟨(-2), τ1, rfl, by subst hτ1; unfold mWaF; dsimp only [mC0]; rw [if_neg c_2, if_pos c_3], by rw [ht]; exact hP, va_K.moved hW.alike hK, hD.weaken (fun _ _ _ _ => trivial)⟩, hS.F ht⟩) hS.2.2 kd_M_wake_26
    · refine lv_aload_n hx hb kd_M_wake_16 rfl (lv_at hl 0 rfl) ?_
      refine lv_lload_n hx hb kd_M_wake_17 rfl (lv_at hl 2 rfl) ?_
      refine kx_Vi (G := gM n ad cI cZ cL) (σ := τ1) (κ := (0, 0)) (ci := 3) (fs := thisM ad n τ1) (As := [.long t]) (rest := []) (n := 1) hx hb hml hown hts hT (ct_M_bad l D hn ad cI cZ cL τ1 t H.size) kw_319 kw_321 ks_18 kw_5 kw_322 (by decide +kernel) ⟨rfl, rfl⟩ ⟨Nat.le_of_ble_eq_true rfl, Nat.le_of_ble_eq_true rfl⟩ hK hP hD hS kM_0 rfl rfl rfl hl.1 (Nat.le_of_ble_eq_true rfl) kd_M_wake_18 rfl ⟨Nat.zero_le _, Nat.zero_le _⟩ (fun r_4 τ5 H locs hq6 hP hD hS => ?_)
      obtain ⟨⟨rfl, q_7⟩ | ⟨rfl, q_7⟩, rfl⟩ := hq6
      · refine lv_if_eq (tgt := 27) hx hb kd_M_wake_21 (by decide) (fun _ => ?_) (fun c0 => absurd (by decide) c0)
        refine lv_aload_n hx hb kd_M_wake_27 rfl (lv_at hl 0 rfl) ?_
        refine lv_lload_n hx hb kd_M_wake_28 rfl (lv_at hl 2 rfl) ?_
        refine kx_Vv (G := gM n ad cI cZ cL) (σ := τ1) (κ := (0, 0)) (ci := 3) (fs := thisM ad n τ1) (As := [.long t]) (rest := []) (n := 1) hx hb hml hown hts hT (ct_M_go l D hn ad cI cZ cL τ1 t (by subst hτ1; exact q_7) (by subst hτ1; exact ha) hA H.size) kw_324 kw_326 ks_19 kw_5 kw_327 (by decide +kernel) ⟨rfl, rfl⟩ ⟨Nat.le_of_ble_eq_true rfl, Nat.le_of_ble_eq_true rfl⟩ hK hP hD hS kM_0 rfl rfl rfl hl.1 (Nat.le_of_ble_eq_true rfl) kd_M_wake_29 rfl ⟨Nat.zero_le _, Nat.zero_le _⟩ (fun τ9 H locs hq10 hP hD hS => ?_)
        have hτ9 := hq10
        refine lv_iconst (v := 0) hx hb kd_M_wake_32 (by decide) ?_
        refine lv_istore (lv' := [(4, .int 0), (0, .ref (ad (0, 0))), (1, .int f), (2, .long t)]) hx hb kd_M_wake_33 hl (by decide) rfl (fun ls hl => ?_)
        refine lv_iconst (v := 1) hx hb kd_M_wake_35 (by decide) ?_
        refine lv_istore (lv' := [(5, .int 1), (4, .int 0), (0, .ref (ad (0, 0))), (1, .int f), (2, .long t)]) hx hb kd_M_wake_36 hl (by decide) rfl (fun ls hl => ?_)
        have loop : ∀ (q j : Nat) (ρj : MS) (x4 : Int32) (H : Heap) (locs : List Loc) (ls : Array Slot), j ≤ n → n < j + q → ((ρj, x4) = mWkL f (mGoT n (mC0 σ) t) j) → va_P D kCl (kW (kM) ad (gM n ad cI cZ cL ρj)) H → va_D (kA (kM) ad s.heap.size) (kW (kM) ad (gM n ad cI cZ cL ρj)) → va_S (kA (kM) ad s.heap.size) s.heap H locs → lv_has ls 6 [(0, .ref (ad (0, 0))), (1, .int f), (2, .long t), (4, .int x4), (5, .int (nI (j + 1)))] → W p l e (headSpec (km ky_M_wake kc_M_wake 6 (some .int)) ({ frames := 5, cells := 0, slots := 0, locals := 111 })).room s m [.ref (ad (0, 0)), .int f, .long t].toArray below meth c H locs 0 0 (MQ below (mQi D n ad cI cZ cL s.heap.size (fun r τ => (r, τ) = mWaF n σ f t)) [.ref (ad (0, 0)), .int f, .long t].toArray s 0 0 (kA (kM) ad s.heap.size)) (F0 m 38 ls []) := by
          intro q
          induction q with
          | zero => intro j ρj x4 H locs ls hj_j hq_j; exact absurd hq_j (by omega)
          | succ q ih_j =>
            intro j ρj x4 H locs ls hj_j hq_j hI_j hP hD hS hl
            refine lv_iload hx hb kd_M_wake_38 (lv_at hl 4 rfl) ?_
            refine lv_aload_n hx hb kd_M_wake_40 rfl (lv_at hl 0 rfl) ?_
            refine kx_get (ci := 3) (fs := thisM ad n ρj) (v := .int (nI n)) hx hb hw ki_M hown hK hP kM_0 rfl rfl 1 (by decide) kw_242 rfl rfl kd_M_wake_41 ?_
            refine lv_icmp_gt (tgt := 95) hx hb kd_M_wake_44 (by decide) (fun c_11 => ?_) (fun c_11 => ?_)
            · have hje_j : j = n := lp_endg (by omega) hj_j c_11
              refine lv_iload hx hb kd_M_wake_95 (lv_at hl 3 rfl) ?_
              exact W.iret (v := x4) hx hb hr (fun t ht hW => ⟨⟨x4, ρj, rfl, by rw [hje_j] at hI_j; subst hτ1; subst hτ9; unfold mWaF; dsimp only; rw [if_neg c_2, if_neg c_3]; exact Eq.trans (by rw [← hI_j]) (if_pos q_7).symm, by rw [ht]; exact hP, va_K.moved hW.alike hK, hD.weaken (fun _ _ _ _ => trivial)⟩, hS.F ht⟩) hS.2.2 kd_M_wake_97
            · have hlt_j : j < n := lp_gog (by omega) hj_j c_11
              refine lv_iload hx hb kd_M_wake_47 (lv_at hl 4 rfl) ?_
              refine lv_bipush (v := 16) hx hb kd_M_wake_49 (by decide) ?_
              refine lv_irem hx hb kd_M_wake_51 (by decide) ?_
              refine lv_iload_n hx hb kd_M_wake_52 rfl (lv_at hl 1 rfl) ?_
              refine lv_bipush (v := 16) hx hb kd_M_wake_53 (by decide) ?_
              refine lv_irem hx hb kd_M_wake_55 (by decide) ?_
              refine lv_icmp_ne (tgt := 89) hx hb kd_M_wake_56 (by decide) (fun c_12 => ?_) (fun c_12 => ?_)
              · refine lv_iinc (v := nI (j + 1 + 1)) (lv' := [(5, .int (nI (j + 1 + 1))), (0, .ref (ad (0, 0))), (1, .int f), (2, .long t), (4, .int x4)]) hx hb kd_M_wake_89 hl (k := 4) rfl (nI_1 (j + 1)) (by decide) rfl (fun ls hl => ?_)
                refine lv_goto (tgt := 38) hx hb kd_M_wake_92 (by decide) ?_
                exact ih_j (j + 1) ρj x4 _ _ _ hlt_j (by omega) (by rw [mWkL, ← hI_j, if_neg c_12]) hP hD hS (lv_sub hl [1, 2, 3, 4, 0] rfl)
              · refine lv_aload_n hx hb kd_M_wake_59 rfl (lv_at hl 0 rfl) ?_
                refine kx_get (ci := 3) (fs := thisM ad n ρj) (v := .ref (ad (4, 0))) hx hb hw ki_M hown hK hP kM_0 rfl rfl 5 (by decide) kw_246 rfl rfl kd_M_wake_60 ?_
                refine lv_iload hx hb kd_M_wake_63 (lv_at hl 4 rfl) ?_
                refine kx_zald (i := j + 1) hx hb hK hP kM_4 1 rfl rfl rfl (by omega) (by decide) kd_M_wake_65 ?_
                refine lv_if_ne (tgt := 89) hx hb kd_M_wake_66 (by decide) (fun c_13 => ?_) (fun c_13 => ?_)
                · refine lv_iinc (v := nI (j + 1 + 1)) (lv' := [(5, .int (nI (j + 1 + 1))), (0, .ref (ad (0, 0))), (1, .int f), (2, .long t), (4, .int x4)]) hx hb kd_M_wake_89 hl (k := 4) rfl (nI_1 (j + 1)) (by decide) rfl (fun ls hl => ?_)
                  refine lv_goto (tgt := 38) hx hb kd_M_wake_92 (by decide) ?_
                  exact ih_j (j + 1) ρj x4 _ _ _ hlt_j (by omega) (by rw [mWkL, ← hI_j, if_pos c_12, if_neg c_13]) hP hD hS (lv_sub hl [1, 2, 3, 4, 0] rfl)
                · refine lv_aload_n hx hb kd_M_wake_69 rfl (lv_at hl 0 rfl) ?_
                  refine kx_get (ci := 3) (fs := thisM ad n ρj) (v := .ref (ad (1, 0))) hx hb hw ki_M hown hK hP kM_0 rfl rfl 2 (by decide) kw_243 rfl rfl kd_M_wake_70 ?_
                  refine lv_iload hx hb kd_M_wake_73 (lv_at hl 4 rfl) ?_
                  refine kx_iald (i := j + 1) hx hb hK hP kM_1 0 rfl rfl rfl (by omega) (by decide) kd_M_wake_75 ?_
                  refine lv_iconst (v := 2) hx hb kd_M_wake_76 (by decide) ?_
                  refine lv_icmp_ge (tgt := 89) hx hb kd_M_wake_77 (by decide) (fun c_14 => ?_) (fun c_14 => ?_)
                  · refine lv_iinc (v := nI (j + 1 + 1)) (lv' := [(5, .int (nI (j + 1 + 1))), (0, .ref (ad (0, 0))), (1, .int f), (2, .long t), (4, .int x4)]) hx hb kd_M_wake_89 hl (k := 4) rfl (nI_1 (j + 1)) (by decide) rfl (fun ls hl => ?_)
                    refine lv_goto (tgt := 38) hx hb kd_M_wake_92 (by decide) ?_
                    exact ih_j (j + 1) ρj x4 _ _ _ hlt_j (by omega) (by rw [mWkL, ← hI_j, if_pos c_12, if_pos c_13, if_pos c_14]) hP hD hS (lv_sub hl [1, 2, 3, 4, 0] rfl)
                  · refine lv_aload_n hx hb kd_M_wake_80 rfl (lv_at hl 0 rfl) ?_
                    refine lv_iload hx hb kd_M_wake_81 (lv_at hl 4 rfl) ?_
                    refine kx_Vv (G := gM n ad cI cZ cL) (σ := ρj) (κ := (0, 0)) (ci := 3) (fs := thisM ad n ρj) (As := [.int (nI (j + 1))]) (rest := []) (n := 1) hx hb hml hown hts hT (ct_M_wakes l D hn ad cI cZ cL ρj (Nat.succ_pos j) hlt_j H.size) kw_307 kw_309 ks_16 kw_5 kw_310 (by decide +kernel) ⟨rfl, rfl⟩ ⟨Nat.le_of_ble_eq_true rfl, Nat.le_of_ble_eq_true rfl⟩ hK hP hD hS kM_0 rfl rfl rfl hl.1 (Nat.le_of_ble_eq_true rfl) kd_M_wake_83 rfl ⟨Nat.zero_le _, Nat.zero_le _⟩ (fun τ16 H locs hq17 hP hD hS => ?_)
                    have hτ16 := hq17
                    refine lv_iinc (v := x4 + 1) (lv' := [(4, .int (x4 + 1)), (0, .ref (ad (0, 0))), (1, .int f), (2, .long t), (5, .int (nI (j + 1)))]) hx hb kd_M_wake_86 hl (k := 3) rfl rfl (by decide) rfl (fun ls hl => ?_)
                    refine lv_iinc (v := nI (j + 1 + 1)) (lv' := [(5, .int (nI (j + 1 + 1))), (4, .int (x4 + 1)), (0, .ref (ad (0, 0))), (1, .int f), (2, .long t)]) hx hb kd_M_wake_89 hl (k := 4) rfl (nI_1 (j + 1)) (by decide) rfl (fun ls hl => ?_)
                    refine lv_goto (tgt := 38) hx hb kd_M_wake_92 (by decide) ?_
                    exact ih_j (j + 1) τ16 (x4 + 1) _ _ _ hlt_j (by omega) (by rw [mWkL, ← hI_j, if_pos c_12, if_pos c_13, if_neg c_14, hτ16]) hP hD hS (lv_sub hl [2, 3, 4, 1, 0] rfl)
        exact loop (n + 1) 0 τ9 0 _ _ _ (Nat.zero_le _) (by omega) (by subst hτ1; subst hτ9; rfl) hP hD hS (lv_sub hl [2, 3, 4, 1, 0] rfl)
      · refine lv_if_eq (tgt := 27) hx hb kd_M_wake_21 (by decide) (fun c0 => absurd c0 (by decide)) (fun _ => ?_)
        refine lv_bipush (v := (-2)) hx hb kd_M_wake_24 (by decide) ?_
        exact W.iret (v := (-2)) hx hb hr (fun t ht hW => ⟨⟨(-2), τ1, rfl, by subst hτ1; unfold mWaF; dsimp only [mC0]; rw [if_neg c_2, if_neg c_3, if_neg q_7], by rw [ht]; exact hP, va_K.moved hW.alike hK, hD.weaken (fun _ _ _ _ => trivial)⟩, hS.F ht⟩) hS.2.2 kd_M_wake_26
