def mBiL (x : Int32) : Nat → Int32
  | 0 => 0
  | k + 1 => mBiL x k + ((x >>> (nI k &&& 31)) &&& 1)
def mBiS (σ : MS) (v : Nat) (b on : Int32) : MS :=
  let s0 : MS := mC0 σ
  if on = 0 then setM s0 v ((s0.1 v).1, (s0.1 v).2.1, (s0.1 v).2.2.1, (s0.1 v).2.2.2.1, (s0.1 v).2.2.2.2.1 &&& ((1 <<< (b &&& 31)) ^^^ (-1)), (s0.1 v).2.2.2.2.2.1, (s0.1 v).2.2.2.2.2.2.1, (s0.1 v).2.2.2.2.2.2.2.1, (s0.1 v).2.2.2.2.2.2.2.2.1, (s0.1 v).2.2.2.2.2.2.2.2.2) else setM s0 v ((s0.1 v).1, (s0.1 v).2.1, (s0.1 v).2.2.1, (s0.1 v).2.2.2.1, (s0.1 v).2.2.2.2.1 ||| (1 <<< (b &&& 31)), (s0.1 v).2.2.2.2.2.1, (s0.1 v).2.2.2.2.2.2.1, (s0.1 v).2.2.2.2.2.2.2.1, (s0.1 v).2.2.2.2.2.2.2.2.1, (s0.1 v).2.2.2.2.2.2.2.2.2)
def mBiF (σ : MS) (v : Nat) (b on : Int32) : Int32 × MS :=
  if b < 0 then (-2, mC0 σ) else if b ≤ 31 then (mBiL ((mBiS σ v b on).1 v).2.2.2.2.1 32, mBiS σ v b on) else (-2, mC0 σ)
set_option maxHeartbeats 4000000 in
set_option maxRecDepth 100000 in
theorem ct_M_bit (l : Launch) (D : va_G) {n : Nat} (hn : 1 ≤ n ∧ n ≤ 64) (ad : Nat × Nat → Nat) (cI cZ cL : ClassId) (σ : MS) (k b on : Int32) (sz : Nat) : Met l ky_M_bit (km ky_M_bit kc_M_bit 6 (some .int)) ({ frames := 1, cells := 0, slots := 0, locals := 21 }) (mPre D n ad cI cZ cL σ [.ref (ad (0, 0)), .int k, .int b, .int on] sz) (mQi D n ad cI cZ cL sz (fun r τ => ndP n k (fun i => (r, τ) = mBiF σ (i + 1) b on) ((r, τ) = (-1, mC0 σ)))) 0 0 (kA (kM) ad sz) := by
  refine Met.ofW (cc := kc_M_bit) (maxL := 6) (ret := (some .int)) (by decide) rfl ?_
  intro p e s m args below meth c s₁ B hml hv
  obtain ⟨rfl, hsz, hP, hK, hD0⟩ := hv
  have hx := B.exec
  have hb := B.bytes
  have hr := B.returns
  have hts := atoms_spec (ws := km ky_M_bit kc_M_bit 6 (some .int)) B.pre
  have hT : ∀ w ∈ kB_l, w ∈ km ky_M_bit kc_M_bit 6 (some .int) := fun w h => List.mem_cons_of_mem _ h
  have hw := fun w h => hts w (hT w h)
  have hown : s.vm.findClass kR_M = some m.cls := findClass_of_methodNamed B.named
  have hlocks := B.notSynchronized
  subst hsz
  have hD : va_D (kA (kM) ad s.heap.size) (kW (kM) ad (gM n ad cI cZ cL σ)) := kD_any _ hD0
  have hS : va_S (kA (kM) ad s.heap.size) s.heap s.heap [] := va_S.rf
  have hl := lv_entry ([.ref (ad (0, 0)), .int k, .int b, .int on]) (n := 6) (Nat.le_of_ble_eq_true rfl)
  rw [lg_entry_eq]
  generalize (lg_sl ([.ref (ad (0, 0)), .int k, .int b, .int on]) ++ List.replicate (6 - (lg_sl ([.ref (ad (0, 0)), .int k, .int b, .int on])).length) Slot.unset).toArray = ls at hl ⊢
  have hl : lv_has ls 6 [(0, .ref (ad (0, 0))), (1, .int k), (2, .int b), (3, .int on)] := hl
  refine lv_aload_n hx hb kd_M_bit_0 rfl (lv_at hl 0 rfl) ?_
  refine lv_iload_n hx hb kd_M_bit_1 rfl (lv_at hl 1 rfl) ?_
  refine kx_Vi (G := gM n ad cI cZ cL) (σ := σ) (κ := (0, 0)) (ci := 3) (fs := thisM ad n σ) (As := [.int k]) (rest := []) (n := 1) hx hb hml hown hts hT (ct_M_none l D hn ad cI cZ cL σ k s.heap.size) kw_299 kw_301 ks_14 kw_5 kw_302 (by decide +kernel) ⟨rfl, rfl⟩ ⟨Nat.le_of_ble_eq_true rfl, Nat.le_of_ble_eq_true rfl⟩ hK hP hD hS kM_0 rfl rfl rfl hl.1 (Nat.le_of_ble_eq_true rfl) kd_M_bit_2 rfl ⟨Nat.zero_le _, Nat.zero_le _⟩ (fun r_1 τ2 H locs hq3 hP hD hS => ?_)
  obtain ⟨⟨rfl, i, hi, hk⟩ | ⟨rfl, hno⟩, hτ2⟩ := hq3
  · subst hk
    refine lv_if_eq (tgt := 10) hx hb kd_M_bit_5 (by decide) (fun _ => ?_) (fun c0 => absurd (by decide) c0)
    refine lv_iload_n hx hb kd_M_bit_10 rfl (lv_at hl 2 rfl) ?_
    refine lv_if_lt (tgt := 20) hx hb kd_M_bit_11 (by decide) (fun c_4 => ?_) (fun c_4 => ?_)
    · refine lv_bipush (v := (-2)) hx hb kd_M_bit_20 (by decide) ?_
      exact W.iret (v := (-2)) hx hb hr (fun t ht hW => ⟨⟨(-2), τ2, rfl, ndP_y hn.2 hi rfl (by subst hτ2; unfold mBiF; rw [if_pos c_4]), by rw [ht]; exact hP, va_K.moved hW.alike hK, hD.weaken (fun _ _ _ _ => trivial)⟩, hS.F ht⟩) hS.2.2 kd_M_bit_22
    · refine lv_iload_n hx hb kd_M_bit_14 rfl (lv_at hl 2 rfl) ?_
      refine lv_bipush (v := 31) hx hb kd_M_bit_15 (by decide) ?_
      refine lv_icmp_le (tgt := 23) hx hb kd_M_bit_17 (by decide) (fun c_5 => ?_) (fun c_5 => ?_)
      · refine lv_aload_n hx hb kd_M_bit_23 rfl (lv_at hl 0 rfl) ?_
        refine kx_get (ci := 3) (fs := thisM ad n τ2) (v := .ref (ad (5, 0))) hx hb hw ki_M hown hK hP kM_0 rfl rfl 6 (by decide) kw_247 rfl rfl kd_M_bit_24 ?_
        refine lv_iload_n hx hb kd_M_bit_27 rfl (lv_at hl 1 rfl) ?_
        refine lv_iload_n hx hb kd_M_bit_28 rfl (lv_at hl 3 rfl) ?_
        refine lv_if_eq (tgt := 45) hx hb kd_M_bit_29 (by decide) (fun c_6 => ?_) (fun c_6 => ?_)
        · refine lv_aload_n hx hb kd_M_bit_45 rfl (lv_at hl 0 rfl) ?_
          refine kx_get (ci := 3) (fs := thisM ad n τ2) (v := .ref (ad (5, 0))) hx hb hw ki_M hown hK hP kM_0 rfl rfl 6 (by decide) kw_247 rfl rfl kd_M_bit_46 ?_
          refine lv_iload_n hx hb kd_M_bit_49 rfl (lv_at hl 1 rfl) ?_
          refine kx_iald (i := i + 1) hx hb hK hP kM_5 0 rfl rfl rfl (by omega) (by decide) kd_M_bit_50 ?_
          refine lv_iconst (v := 1) hx hb kd_M_bit_51 (by decide) ?_
          refine lv_iload_n hx hb kd_M_bit_52 rfl (lv_at hl 2 rfl) ?_
          refine lv_ishl hx hb kd_M_bit_53 ?_
          refine lv_iconst (v := (-1)) hx hb kd_M_bit_54 (by decide) ?_
          refine lv_ixor hx hb kd_M_bit_55 ?_
          refine lv_iand hx hb kd_M_bit_56 ?_
          refine kx_iast (i := i + 1) (g2 := gM n ad cI cZ cL (setM τ2 (i + 1) ((τ2.1 (i + 1)).1, (τ2.1 (i + 1)).2.1, (τ2.1 (i + 1)).2.2.1, (τ2.1 (i + 1)).2.2.2.1, ((τ2.1 (i + 1)).2.2.2.2.1) &&& ((1 <<< (b &&& 31)) ^^^ ((-1))), (τ2.1 (i + 1)).2.2.2.2.2.1, (τ2.1 (i + 1)).2.2.2.2.2.2.1, (τ2.1 (i + 1)).2.2.2.2.2.2.2.1, (τ2.1 (i + 1)).2.2.2.2.2.2.2.2.1, (τ2.1 (i + 1)).2.2.2.2.2.2.2.2.2))) hx hb hK hP hD hS kM_5 0 rfl rfl rfl (by omega) (by decide) gM_5 kd_M_bit_57 (fun H locs hP hD hS => ?_)
          generalize hτ7 : (setM τ2 (i + 1) ((τ2.1 (i + 1)).1, (τ2.1 (i + 1)).2.1, (τ2.1 (i + 1)).2.2.1, (τ2.1 (i + 1)).2.2.2.1, ((τ2.1 (i + 1)).2.2.2.2.1) &&& ((1 <<< (b &&& 31)) ^^^ ((-1))), (τ2.1 (i + 1)).2.2.2.2.2.1, (τ2.1 (i + 1)).2.2.2.2.2.2.1, (τ2.1 (i + 1)).2.2.2.2.2.2.2.1, (τ2.1 (i + 1)).2.2.2.2.2.2.2.2.1, (τ2.1 (i + 1)).2.2.2.2.2.2.2.2.2) : MS) = τ7 at hP hD
          refine lv_iconst (v := 0) hx hb kd_M_bit_58 (by decide) ?_
          refine lv_istore (lv' := [(4, .int 0), (0, .ref (ad (0, 0))), (1, .int (nI (i + 1))), (2, .int b), (3, .int on)]) hx hb kd_M_bit_59 hl (by decide) rfl (fun ls hl => ?_)
          refine lv_iconst (v := 0) hx hb kd_M_bit_61 (by decide) ?_
          refine lv_istore (lv' := [(5, .int 0), (4, .int 0), (0, .ref (ad (0, 0))), (1, .int (nI (i + 1))), (2, .int b), (3, .int on)]) hx hb kd_M_bit_62 hl (by decide) rfl (fun ls hl => ?_)
          have loop : ∀ (q j : Nat) (ρj : MS) (x4 : Int32) (H : Heap) (locs : List Loc) (ls : Array Slot), j ≤ 32 → 32 < j + q → (τ7 = ρj ∧ x4 = mBiL (τ7.1 (i + 1)).2.2.2.2.1 j) → va_P D kCl (kW (kM) ad (gM n ad cI cZ cL ρj)) H → va_D (kA (kM) ad s.heap.size) (kW (kM) ad (gM n ad cI cZ cL ρj)) → va_S (kA (kM) ad s.heap.size) s.heap H locs → lv_has ls 6 [(0, .ref (ad (0, 0))), (1, .int (nI (i + 1))), (2, .int b), (3, .int on), (4, .int x4), (5, .int (nI j))] → W p l e (headSpec (km ky_M_bit kc_M_bit 6 (some .int)) ({ frames := 1, cells := 0, slots := 0, locals := 21 })).room s m [.ref (ad (0, 0)), .int (nI (i + 1)), .int b, .int on].toArray below meth c H locs 0 0 (MQ below (mQi D n ad cI cZ cL s.heap.size (fun r τ => ndP n (nI (i + 1)) (fun i => (r, τ) = mBiF σ (i + 1) b on) ((r, τ) = (-1, mC0 σ)))) [.ref (ad (0, 0)), .int (nI (i + 1)), .int b, .int on].toArray s 0 0 (kA (kM) ad s.heap.size)) (F0 m 64 ls []) := by
            intro q
            induction q with
            | zero => intro j ρj x4 H locs ls hj_j hq_j; exact absurd hq_j (by omega)
            | succ q ih_j =>
              intro j ρj x4 H locs ls hj_j hq_j hI_j hP hD hS hl
              obtain ⟨rfl, hI_j⟩ := hI_j
              refine lv_iload hx hb kd_M_bit_64 (lv_at hl 5 rfl) ?_
              refine lv_bipush (v := 32) hx hb kd_M_bit_66 (by decide) ?_
              refine lv_icmp_ge (tgt := 93) hx hb kd_M_bit_68 (by decide) (fun c_8 => ?_) (fun c_8 => ?_)
              · have hje_j : j = 32 := lp_end (by decide) hj_j c_8
                refine lv_iload hx hb kd_M_bit_93 (lv_at hl 4 rfl) ?_
                exact W.iret (v := x4) hx hb hr (fun t ht hW => ⟨⟨x4, τ7, rfl, ndP_y hn.2 hi rfl (by rw [hje_j] at hI_j; unfold mBiF; rw [if_neg c_4, if_pos c_5]; have hs : mBiS σ (i + 1) b on = τ7 := (by unfold mBiS; dsimp only; rw [if_pos c_6, ← hτ7, ← hτ2]); rw [hs, hI_j]), by rw [ht]; exact hP, va_K.moved hW.alike hK, hD.weaken (fun _ _ _ _ => trivial)⟩, hS.F ht⟩) hS.2.2 kd_M_bit_95
              · have hlt_j : j < 32 := lp_go (by decide) hj_j c_8
                refine lv_iload hx hb kd_M_bit_71 (lv_at hl 4 rfl) ?_
                refine lv_aload_n hx hb kd_M_bit_73 rfl (lv_at hl 0 rfl) ?_
                refine kx_get (ci := 3) (fs := thisM ad n τ7) (v := .ref (ad (5, 0))) hx hb hw ki_M hown hK hP kM_0 rfl rfl 6 (by decide) kw_247 rfl rfl kd_M_bit_74 ?_
                refine lv_iload_n hx hb kd_M_bit_77 rfl (lv_at hl 1 rfl) ?_
                refine kx_iald (i := i + 1) hx hb hK hP kM_5 0 rfl rfl rfl (by omega) (by decide) kd_M_bit_78 ?_
                refine lv_iload hx hb kd_M_bit_79 (lv_at hl 5 rfl) ?_
                refine lv_ishr hx hb kd_M_bit_81 ?_
                refine lv_iconst (v := 1) hx hb kd_M_bit_82 (by decide) ?_
                refine lv_iand hx hb kd_M_bit_83 ?_
                refine lv_iadd hx hb kd_M_bit_84 ?_
                refine lv_istore (lv' := [(4, .int (x4 + ((((τ7.1 (i + 1)).2.2.2.2.1) >>> ((nI j) &&& 31)) &&& 1))), (0, .ref (ad (0, 0))), (1, .int (nI (i + 1))), (2, .int b), (3, .int on), (5, .int (nI j))]) hx hb kd_M_bit_85 hl (by decide) rfl (fun ls hl => ?_)
                refine lv_iinc (v := nI (j + 1)) (lv' := [(5, .int (nI (j + 1))), (4, .int (x4 + ((((τ7.1 (i + 1)).2.2.2.2.1) >>> ((nI j) &&& 31)) &&& 1))), (0, .ref (ad (0, 0))), (1, .int (nI (i + 1))), (2, .int b), (3, .int on)]) hx hb kd_M_bit_87 hl (k := 5) rfl (nI_1 j) (by decide) rfl (fun ls hl => ?_)
                refine lv_goto (tgt := 64) hx hb kd_M_bit_90 (by decide) ?_
                exact ih_j (j + 1) τ7 (x4 + ((((τ7.1 (i + 1)).2.2.2.2.1) >>> ((nI j) &&& 31)) &&& 1)) _ _ _ hlt_j (by omega) ⟨rfl, by rw [hI_j, mBiL]⟩ hP hD hS (lv_sub hl [2, 3, 4, 5, 1, 0] rfl)
          exact loop (32 + 1) 0 τ7 0 _ _ _ (Nat.zero_le _) (by omega) ⟨rfl, rfl⟩ hP hD hS (lv_sub hl [2, 3, 4, 5, 1, 0] rfl)
        · refine lv_aload_n hx hb kd_M_bit_32 rfl (lv_at hl 0 rfl) ?_
          refine kx_get (ci := 3) (fs := thisM ad n τ2) (v := .ref (ad (5, 0))) hx hb hw ki_M hown hK hP kM_0 rfl rfl 6 (by decide) kw_247 rfl rfl kd_M_bit_33 ?_
          refine lv_iload_n hx hb kd_M_bit_36 rfl (lv_at hl 1 rfl) ?_
          refine kx_iald (i := i + 1) hx hb hK hP kM_5 0 rfl rfl rfl (by omega) (by decide) kd_M_bit_37 ?_
          refine lv_iconst (v := 1) hx hb kd_M_bit_38 (by decide) ?_
          refine lv_iload_n hx hb kd_M_bit_39 rfl (lv_at hl 2 rfl) ?_
          refine lv_ishl hx hb kd_M_bit_40 ?_
          refine lv_ior hx hb kd_M_bit_41 ?_
          refine lv_goto (tgt := 57) hx hb kd_M_bit_42 (by decide) ?_
          refine kx_iast (i := i + 1) (g2 := gM n ad cI cZ cL (setM τ2 (i + 1) ((τ2.1 (i + 1)).1, (τ2.1 (i + 1)).2.1, (τ2.1 (i + 1)).2.2.1, (τ2.1 (i + 1)).2.2.2.1, ((τ2.1 (i + 1)).2.2.2.2.1) ||| (1 <<< (b &&& 31)), (τ2.1 (i + 1)).2.2.2.2.2.1, (τ2.1 (i + 1)).2.2.2.2.2.2.1, (τ2.1 (i + 1)).2.2.2.2.2.2.2.1, (τ2.1 (i + 1)).2.2.2.2.2.2.2.2.1, (τ2.1 (i + 1)).2.2.2.2.2.2.2.2.2))) hx hb hK hP hD hS kM_5 0 rfl rfl rfl (by omega) (by decide) gM_5 kd_M_bit_57 (fun H locs hP hD hS => ?_)
          generalize hτ9 : (setM τ2 (i + 1) ((τ2.1 (i + 1)).1, (τ2.1 (i + 1)).2.1, (τ2.1 (i + 1)).2.2.1, (τ2.1 (i + 1)).2.2.2.1, ((τ2.1 (i + 1)).2.2.2.2.1) ||| (1 <<< (b &&& 31)), (τ2.1 (i + 1)).2.2.2.2.2.1, (τ2.1 (i + 1)).2.2.2.2.2.2.1, (τ2.1 (i + 1)).2.2.2.2.2.2.2.1, (τ2.1 (i + 1)).2.2.2.2.2.2.2.2.1, (τ2.1 (i + 1)).2.2.2.2.2.2.2.2.2) : MS) = τ9 at hP hD
          refine lv_iconst (v := 0) hx hb kd_M_bit_58 (by decide) ?_
          refine lv_istore (lv' := [(4, .int 0), (0, .ref (ad (0, 0))), (1, .int (nI (i + 1))), (2, .int b), (3, .int on)]) hx hb kd_M_bit_59 hl (by decide) rfl (fun ls hl => ?_)
          refine lv_iconst (v := 0) hx hb kd_M_bit_61 (by decide) ?_
          refine lv_istore (lv' := [(5, .int 0), (4, .int 0), (0, .ref (ad (0, 0))), (1, .int (nI (i + 1))), (2, .int b), (3, .int on)]) hx hb kd_M_bit_62 hl (by decide) rfl (fun ls hl => ?_)
          have loop : ∀ (q j : Nat) (ρj : MS) (x4 : Int32) (H : Heap) (locs : List Loc) (ls : Array Slot), j ≤ 32 → 32 < j + q → (τ9 = ρj ∧ x4 = mBiL (τ9.1 (i + 1)).2.2.2.2.1 j) → va_P D kCl (kW (kM) ad (gM n ad cI cZ cL ρj)) H → va_D (kA (kM) ad s.heap.size) (kW (kM) ad (gM n ad cI cZ cL ρj)) → va_S (kA (kM) ad s.heap.size) s.heap H locs → lv_has ls 6 [(0, .ref (ad (0, 0))), (1, .int (nI (i + 1))), (2, .int b), (3, .int on), (4, .int x4), (5, .int (nI j))] → W p l e (headSpec (km ky_M_bit kc_M_bit 6 (some .int)) ({ frames := 1, cells := 0, slots := 0, locals := 21 })).room s m [.ref (ad (0, 0)), .int (nI (i + 1)), .int b, .int on].toArray below meth c H locs 0 0 (MQ below (mQi D n ad cI cZ cL s.heap.size (fun r τ => ndP n (nI (i + 1)) (fun i => (r, τ) = mBiF σ (i + 1) b on) ((r, τ) = (-1, mC0 σ)))) [.ref (ad (0, 0)), .int (nI (i + 1)), .int b, .int on].toArray s 0 0 (kA (kM) ad s.heap.size)) (F0 m 64 ls []) := by
            intro q
            induction q with
            | zero => intro j ρj x4 H locs ls hj_j hq_j; exact absurd hq_j (by omega)
            | succ q ih_j =>
              intro j ρj x4 H locs ls hj_j hq_j hI_j hP hD hS hl
              obtain ⟨rfl, hI_j⟩ := hI_j
              refine lv_iload hx hb kd_M_bit_64 (lv_at hl 5 rfl) ?_
              refine lv_bipush (v := 32) hx hb kd_M_bit_66 (by decide) ?_
              refine lv_icmp_ge (tgt := 93) hx hb kd_M_bit_68 (by decide) (fun c_10 => ?_) (fun c_10 => ?_)
              · have hje_j : j = 32 := lp_end (by decide) hj_j c_10
                refine lv_iload hx hb kd_M_bit_93 (lv_at hl 4 rfl) ?_
                exact W.iret (v := x4) hx hb hr (fun t ht hW => ⟨⟨x4, τ9, rfl, ndP_y hn.2 hi rfl (by rw [hje_j] at hI_j; unfold mBiF; rw [if_neg c_4, if_pos c_5]; have hs : mBiS σ (i + 1) b on = τ9 := (by unfold mBiS; dsimp only; rw [if_neg c_6, ← hτ9, ← hτ2]); rw [hs, hI_j]), by rw [ht]; exact hP, va_K.moved hW.alike hK, hD.weaken (fun _ _ _ _ => trivial)⟩, hS.F ht⟩) hS.2.2 kd_M_bit_95
              · have hlt_j : j < 32 := lp_go (by decide) hj_j c_10
                refine lv_iload hx hb kd_M_bit_71 (lv_at hl 4 rfl) ?_
                refine lv_aload_n hx hb kd_M_bit_73 rfl (lv_at hl 0 rfl) ?_
                refine kx_get (ci := 3) (fs := thisM ad n τ9) (v := .ref (ad (5, 0))) hx hb hw ki_M hown hK hP kM_0 rfl rfl 6 (by decide) kw_247 rfl rfl kd_M_bit_74 ?_
                refine lv_iload_n hx hb kd_M_bit_77 rfl (lv_at hl 1 rfl) ?_
                refine kx_iald (i := i + 1) hx hb hK hP kM_5 0 rfl rfl rfl (by omega) (by decide) kd_M_bit_78 ?_
                refine lv_iload hx hb kd_M_bit_79 (lv_at hl 5 rfl) ?_
                refine lv_ishr hx hb kd_M_bit_81 ?_
                refine lv_iconst (v := 1) hx hb kd_M_bit_82 (by decide) ?_
                refine lv_iand hx hb kd_M_bit_83 ?_
                refine lv_iadd hx hb kd_M_bit_84 ?_
                refine lv_istore (lv' := [(4, .int (x4 + ((((τ9.1 (i + 1)).2.2.2.2.1) >>> ((nI j) &&& 31)) &&& 1))), (0, .ref (ad (0, 0))), (1, .int (nI (i + 1))), (2, .int b), (3, .int on), (5, .int (nI j))]) hx hb kd_M_bit_85 hl (by decide) rfl (fun ls hl => ?_)
                refine lv_iinc (v := nI (j + 1)) (lv' := [(5, .int (nI (j + 1))), (4, .int (x4 + ((((τ9.1 (i + 1)).2.2.2.2.1) >>> ((nI j) &&& 31)) &&& 1))), (0, .ref (ad (0, 0))), (1, .int (nI (i + 1))), (2, .int b), (3, .int on)]) hx hb kd_M_bit_87 hl (k := 5) rfl (nI_1 j) (by decide) rfl (fun ls hl => ?_)
                refine lv_goto (tgt := 64) hx hb kd_M_bit_90 (by decide) ?_
                exact ih_j (j + 1) τ9 (x4 + ((((τ9.1 (i + 1)).2.2.2.2.1) >>> ((nI j) &&& 31)) &&& 1)) _ _ _ hlt_j (by omega) ⟨rfl, by rw [hI_j, mBiL]⟩ hP hD hS (lv_sub hl [2, 3, 4, 5, 1, 0] rfl)
          exact loop (32 + 1) 0 τ9 0 _ _ _ (Nat.zero_le _) (by omega) ⟨rfl, rfl⟩ hP hD hS (lv_sub hl [2, 3, 4, 5, 1, 0] rfl)
      · refine lv_bipush (v := (-2)) hx hb kd_M_bit_20 (by decide) ?_
        exact W.iret (v := (-2)) hx hb hr (fun t ht hW => ⟨⟨(-2), τ2, rfl, ndP_y hn.2 hi rfl (by subst hτ2; unfold mBiF; rw [if_neg c_4, if_neg c_5]), by rw [ht]; exact hP, va_K.moved hW.alike hK, hD.weaken (fun _ _ _ _ => trivial)⟩, hS.F ht⟩) hS.2.2 kd_M_bit_22
  · refine lv_if_eq (tgt := 10) hx hb kd_M_bit_5 (by decide) (fun c0 => absurd c0 (by decide)) (fun _ => ?_)
    refine lv_iconst (v := (-1)) hx hb kd_M_bit_8 (by decide) ?_
    exact W.iret (v := (-1)) hx hb hr (fun t ht hW => ⟨⟨(-1), τ2, rfl, ndP_n hno (by rw [hτ2]), by rw [ht]; exact hP, va_K.moved hW.alike hK, hD.weaken (fun _ _ _ _ => trivial)⟩, hS.F ht⟩) hS.2.2 kd_M_bit_9
abbrev ndQ (σ : MS) (v b k : Nat) : Prop := σ.2.1 b = σ.2.1 ((v + 7) / 8) ∧ tbS (σ.1 v).2.2.2.2.1 k ∧ ¬ σ.2.2.2.1 (32 * b + k) = 0 ∧ ¬ 11 ≤ σ.2.2.2.2.1 - σ.2.2.1 (32 * b + k)
def ndE (σ : MS) (v j k : Nat) : Prop := (∃ b, b < j ∧ ∃ q, q < 32 ∧ ndQ σ v (b + 1) q) ∨ ∃ q, q < k ∧ ndQ σ v (j + 1) q
theorem ndE_0 (σ : MS) (v : Nat) : ¬ ndE σ v 0 0 := by rintro (⟨b, h, _⟩ | ⟨q, h, _⟩) <;> omega
theorem ndE_o {σ : MS} {v j : Nat} : ndE σ v j 32 ↔ ndE σ v (j + 1) 0 := by
  constructor
  · rintro (⟨b, h, z⟩ | z)
    · exact Or.inl ⟨b, by omega, z⟩
    · exact Or.inl ⟨j, by omega, z⟩
  · rintro (⟨b, h, z⟩ | ⟨q, h, _⟩)
    · rcases Nat.lt_or_ge b j with y | y
      · exact Or.inl ⟨b, y, z⟩
      · have : b = j := by omega
        subst this
        exact Or.inr z
    · omega
theorem ndE_s {σ : MS} {v j k : Nat} (h : ndE σ v j k) : ndE σ v j (k + 1) := by
  rcases h with z | ⟨q, h, z⟩
  · exact Or.inl z
  · exact Or.inr ⟨q, by omega, z⟩
theorem ndE_y {σ : MS} {v j k : Nat} (h : ndQ σ v (j + 1) k) : ndE σ v j (k + 1) := Or.inr ⟨k, by omega, h⟩
theorem ndE_n {σ : MS} {v j k : Nat} (h : ¬ ndE σ v j k) (h2 : ¬ ndQ σ v (j + 1) k) : ¬ ndE σ v j (k + 1) := by
  rintro (z | ⟨q, y, z⟩)
  · exact h (Or.inl z)
  · rcases Nat.lt_or_ge q k with u | u
    · exact h (Or.inr ⟨q, u, z⟩)
    · have : q = k := by omega
      subst this
      exact h2 z
theorem isE_1 {x : Int32} {A B : Prop} (h : (x = 1 ∧ A) ∨ (x = 0 ∧ ¬ A)) (hx : ¬ x = 0) (hAB : A → B) : ((1 : Int32) = 1 ∧ B) ∨ ((1 : Int32) = 0 ∧ ¬ B) := by
  rcases h with z | z
  · exact Or.inl ⟨rfl, hAB z.2⟩
  · exact absurd z.1 hx
theorem isE_0 {x : Int32} {A B : Prop} (h : (x = 1 ∧ A) ∨ (x = 0 ∧ ¬ A)) (hx : x = 0) (hAB : ¬ A → ¬ B) : ((0 : Int32) = 1 ∧ B) ∨ ((0 : Int32) = 0 ∧ ¬ B) := by
  rcases h with z | z
  · exact absurd (z.1.symm.trans hx) (by decide)
  · exact Or.inr ⟨rfl, hAB z.2⟩
set_option maxHeartbeats 4000000 in
set_option maxRecDepth 100000 in
theorem ct_M_needs (l : Launch) (D : va_G) {n : Nat} (hn : 1 ≤ n ∧ n ≤ 64) (ad : Nat × Nat → Nat) (cI cZ cL : ClassId) (σ : MS) (k : Int32) (t : Int64) {a : Nat} (ha : σ.2.2.2.2.1 = lN a) (hA : a < 2 ^ 30) (sz : Nat) : Met l ky_M_needs (km ky_M_needs kc_M_needs 7 (some .int)) ({ frames := 5, cells := 0, slots := 0, locals := 111 }) (mPre D n ad cI cZ cL σ [.ref (ad (0, 0)), .int k, .long t] sz) (mQi D n ad cI cZ cL sz (fun r τ => ndP n k (fun i => (okT σ.2.2.2.2.1 t → mGoT n (mC0 σ) t = τ ∧ ((r = 1 ∧ ndE τ (i + 1) 8 0) ∨ (r = 0 ∧ ¬ ndE τ (i + 1) 8 0))) ∧ (¬ okT σ.2.2.2.2.1 t → (r, τ) = (-2, mC0 σ))) ((r, τ) = (-1, mC0 σ)))) 0 0 (kA (kM) ad sz) := by
  refine Met.ofW (cc := kc_M_needs) (maxL := 7) (ret := (some .int)) (by decide) rfl ?_
  intro p e s m args below meth c s₁ B hml hv
  obtain ⟨rfl, hsz, hP, hK, hD0⟩ := hv
  have hx := B.exec
  have hb := B.bytes
  have hr := B.returns
  have hts := atoms_spec (ws := km ky_M_needs kc_M_needs 7 (some .int)) B.pre
  have hT : ∀ w ∈ kB_l, w ∈ km ky_M_needs kc_M_needs 7 (some .int) := fun w h => List.mem_cons_of_mem _ h
  have hw := fun w h => hts w (hT w h)
  have hown : s.vm.findClass kR_M = some m.cls := findClass_of_methodNamed B.named
  have hlocks := B.notSynchronized
  subst hsz
  have hD : va_D (kA (kM) ad s.heap.size) (kW (kM) ad (gM n ad cI cZ cL σ)) := kD_any _ hD0
  have hS : va_S (kA (kM) ad s.heap.size) s.heap s.heap [] := va_S.rf
  have hl := lv_entry ([.ref (ad (0, 0)), .int k, .long t]) (n := 7) (Nat.le_of_ble_eq_true rfl)
  rw [lg_entry_eq]
  generalize (lg_sl ([.ref (ad (0, 0)), .int k, .long t]) ++ List.replicate (7 - (lg_sl ([.ref (ad (0, 0)), .int k, .long t])).length) Slot.unset).toArray = ls at hl ⊢
  have hl : lv_has ls 7 [(0, .ref (ad (0, 0))), (1, .int k), (2, .long t)] := hl
  refine lv_aload_n hx hb kd_M_needs_0 rfl (lv_at hl 0 rfl) ?_
  refine lv_iload_n hx hb kd_M_needs_1 rfl (lv_at hl 1 rfl) ?_
  refine kx_Vi (G := gM n ad cI cZ cL) (σ := σ) (κ := (0, 0)) (ci := 3) (fs := thisM ad n σ) (As := [.int k]) (rest := []) (n := 1) hx hb hml hown hts hT (ct_M_none l D hn ad cI cZ cL σ k s.heap.size) kw_299 kw_301 ks_14 kw_5 kw_302 (by decide +kernel) ⟨rfl, rfl⟩ ⟨Nat.le_of_ble_eq_true rfl, Nat.le_of_ble_eq_true rfl⟩ hK hP hD hS kM_0 rfl rfl rfl hl.1 (Nat.le_of_ble_eq_true rfl) kd_M_needs_2 rfl ⟨Nat.zero_le _, Nat.zero_le _⟩ (fun r_1 τ2 H locs hq3 hP hD hS => ?_)
  obtain ⟨⟨rfl, i, hi, hk⟩ | ⟨rfl, hno⟩, hτ2⟩ := hq3
  · subst hk
    refine lv_if_eq (tgt := 10) hx hb kd_M_needs_5 (by decide) (fun _ => ?_) (fun c0 => absurd (by decide) c0)
    refine lv_aload_n hx hb kd_M_needs_10 rfl (lv_at hl 0 rfl) ?_
    refine lv_lload_n hx hb kd_M_needs_11 rfl (lv_at hl 2 rfl) ?_
    refine kx_Vi (G := gM n ad cI cZ cL) (σ := τ2) (κ := (0, 0)) (ci := 3) (fs := thisM ad n τ2) (As := [.long t]) (rest := []) (n := 1) hx hb hml hown hts hT (ct_M_bad l D hn ad cI cZ cL τ2 t H.size) kw_319 kw_321 ks_18 kw_5 kw_322 (by decide +kernel) ⟨rfl, rfl⟩ ⟨Nat.le_of_ble_eq_true rfl, Nat.le_of_ble_eq_true rfl⟩ hK hP hD hS kM_0 rfl rfl rfl hl.1 (Nat.le_of_ble_eq_true rfl) kd_M_needs_12 rfl ⟨Nat.zero_le _, Nat.zero_le _⟩ (fun r_4 τ5 H locs hq6 hP hD hS => ?_)
    obtain ⟨⟨rfl, q_7⟩ | ⟨rfl, q_7⟩, rfl⟩ := hq6
    · refine lv_if_eq (tgt := 21) hx hb kd_M_needs_15 (by decide) (fun _ => ?_) (fun c0 => absurd (by decide) c0)
      refine lv_aload_n hx hb kd_M_needs_21 rfl (lv_at hl 0 rfl) ?_
      refine lv_lload_n hx hb kd_M_needs_22 rfl (lv_at hl 2 rfl) ?_
      refine kx_Vv (G := gM n ad cI cZ cL) (σ := τ2) (κ := (0, 0)) (ci := 3) (fs := thisM ad n τ2) (As := [.long t]) (rest := []) (n := 1) hx hb hml hown hts hT (ct_M_go l D hn ad cI cZ cL τ2 t q_7 (by rw [← hτ2]; exact ha) hA H.size) kw_324 kw_326 ks_19 kw_5 kw_327 (by decide +kernel) ⟨rfl, rfl⟩ ⟨Nat.le_of_ble_eq_true rfl, Nat.le_of_ble_eq_true rfl⟩ hK hP hD hS kM_0 rfl rfl rfl hl.1 (Nat.le_of_ble_eq_true rfl) kd_M_needs_23 rfl ⟨Nat.zero_le _, Nat.zero_le _⟩ (fun τ9 H locs hq10 hP hD hS => ?_)
      have hτ9 := hq10
      refine lv_iconst (v := 0) hx hb kd_M_needs_26 (by decide) ?_
      refine lv_istore (lv' := [(4, .int 0), (0, .ref (ad (0, 0))), (1, .int (nI (i + 1))), (2, .long t)]) hx hb kd_M_needs_27 hl (by decide) rfl (fun ls hl => ?_)
      refine lv_iconst (v := 1) hx hb kd_M_needs_29 (by decide) ?_
      refine lv_istore (lv' := [(5, .int 1), (4, .int 0), (0, .ref (ad (0, 0))), (1, .int (nI (i + 1))), (2, .long t)]) hx hb kd_M_needs_30 hl (by decide) rfl (fun ls hl => ?_)
      have loop : ∀ (q j : Nat) (ρj : MS) (x4 : Int32) (H : Heap) (locs : List Loc) (ls : Array Slot), j ≤ 8 → 8 < j + q → (τ9 = ρj ∧ ((x4 = 1 ∧ ndE τ9 (i + 1) j 0) ∨ (x4 = 0 ∧ ¬ ndE τ9 (i + 1) j 0))) → va_P D kCl (kW (kM) ad (gM n ad cI cZ cL ρj)) H → va_D (kA (kM) ad s.heap.size) (kW (kM) ad (gM n ad cI cZ cL ρj)) → va_S (kA (kM) ad s.heap.size) s.heap H locs → lv_has ls 7 [(0, .ref (ad (0, 0))), (1, .int (nI (i + 1))), (2, .long t), (4, .int x4), (5, .int (nI (j + 1)))] → W p l e (headSpec (km ky_M_needs kc_M_needs 7 (some .int)) ({ frames := 5, cells := 0, slots := 0, locals := 111 })).room s m [.ref (ad (0, 0)), .int (nI (i + 1)), .long t].toArray below meth c H locs 0 0 (MQ below (mQi D n ad cI cZ cL s.heap.size (fun r τ => ndP n (nI (i + 1)) (fun i => (okT σ.2.2.2.2.1 t → mGoT n (mC0 σ) t = τ ∧ ((r = 1 ∧ ndE τ (i + 1) 8 0) ∨ (r = 0 ∧ ¬ ndE τ (i + 1) 8 0))) ∧ (¬ okT σ.2.2.2.2.1 t → (r, τ) = (-2, mC0 σ))) ((r, τ) = (-1, mC0 σ)))) [.ref (ad (0, 0)), .int (nI (i + 1)), .long t].toArray s 0 0 (kA (kM) ad s.heap.size)) (F0 m 32 ls []) := by
        intro q
        induction q with
        | zero => intro j ρj x4 H locs ls hj_j hq_j; exact absurd hq_j (by omega)
        | succ q ih_j =>
          intro j ρj x4 H locs ls hj_j hq_j hI_j hP hD hS hl
          obtain ⟨rfl, hI_j⟩ := hI_j
          refine lv_iload hx hb kd_M_needs_32 (lv_at hl 4 rfl) ?_
          refine lv_bipush (v := 9) hx hb kd_M_needs_34 (by decide) ?_
          refine lv_icmp_ge (tgt := 142) hx hb kd_M_needs_36 (by decide) (fun c_11 => ?_) (fun c_11 => ?_)
          · have hje_j : j = 8 := lp_end1 (by decide) hj_j c_11
            refine lv_iload hx hb kd_M_needs_142 (lv_at hl 3 rfl) ?_
            refine lv_if_eq (tgt := 151) hx hb kd_M_needs_144 (by decide) (fun c_12 => ?_) (fun c_12 => ?_)
            · refine lv_iconst (v := 0) hx hb kd_M_needs_151 (by decide) ?_
              exact W.iret (v := 0) hx hb hr (fun t ht hW => ⟨⟨0, τ9, rfl, ndP_y hn.2 hi rfl ⟨fun _ => ⟨by rw [hτ2]; exact hτ9, Or.inr ⟨rfl, (by rw [hje_j] at hI_j; exact hI_j.elim (fun z => absurd (z.1.symm.trans c_12) (by decide)) (fun z => z.2))⟩⟩, fun z => absurd (by rw [← hτ2] at q_7; exact q_7) z⟩, by rw [ht]; exact hP, va_K.moved hW.alike hK, hD.weaken (fun _ _ _ _ => trivial)⟩, hS.F ht⟩) hS.2.2 kd_M_needs_152
            · refine lv_iconst (v := 1) hx hb kd_M_needs_147 (by decide) ?_
              refine lv_goto (tgt := 152) hx hb kd_M_needs_148 (by decide) ?_
              exact W.iret (v := 1) hx hb hr (fun t ht hW => ⟨⟨1, τ9, rfl, ndP_y hn.2 hi rfl ⟨fun _ => ⟨by rw [hτ2]; exact hτ9, Or.inl ⟨rfl, (by rw [hje_j] at hI_j; exact hI_j.elim (fun z => z.2) (fun z => absurd z.1 c_12))⟩⟩, fun z => absurd (by rw [← hτ2] at q_7; exact q_7) z⟩, by rw [ht]; exact hP, va_K.moved hW.alike hK, hD.weaken (fun _ _ _ _ => trivial)⟩, hS.F ht⟩) hS.2.2 kd_M_needs_152
          · have hlt_j : j < 8 := lp_go1 (by decide) hj_j c_11
            refine lv_iconst (v := 0) hx hb kd_M_needs_39 (by decide) ?_
            refine lv_istore (lv' := [(6, .int 0), (0, .ref (ad (0, 0))), (1, .int (nI (i + 1))), (2, .long t), (4, .int x4), (5, .int (nI (j + 1)))]) hx hb kd_M_needs_40 hl (by decide) rfl (fun ls hl => ?_)
            have loop2 : ∀ (q k : Nat) (ρk : MS) (y4 : Int32) (H : Heap) (locs : List Loc) (ls : Array Slot), k ≤ 32 → 32 < k + q → (τ9 = ρk ∧ ((y4 = 1 ∧ ndE τ9 (i + 1) j k) ∨ (y4 = 0 ∧ ¬ ndE τ9 (i + 1) j k))) → va_P D kCl (kW (kM) ad (gM n ad cI cZ cL ρk)) H → va_D (kA (kM) ad s.heap.size) (kW (kM) ad (gM n ad cI cZ cL ρk)) → va_S (kA (kM) ad s.heap.size) s.heap H locs → lv_has ls 7 [(0, .ref (ad (0, 0))), (1, .int (nI (i + 1))), (2, .long t), (5, .int (nI (j + 1))), (4, .int y4), (6, .int (nI k))] → W p l e (headSpec (km ky_M_needs kc_M_needs 7 (some .int)) ({ frames := 5, cells := 0, slots := 0, locals := 111 })).room s m [.ref (ad (0, 0)), .int (nI (i + 1)), .long t].toArray below meth c H locs 0 0 (MQ below (mQi D n ad cI cZ cL s.heap.size (fun r τ => ndP n (nI (i + 1)) (fun i => (okT σ.2.2.2.2.1 t → mGoT n (mC0 σ) t = τ ∧ ((r = 1 ∧ ndE τ (i + 1) 8 0) ∨ (r = 0 ∧ ¬ ndE τ (i + 1) 8 0))) ∧ (¬ okT σ.2.2.2.2.1 t → (r, τ) = (-2, mC0 σ))) ((r, τ) = (-1, mC0 σ)))) [.ref (ad (0, 0)), .int (nI (i + 1)), .long t].toArray s 0 0 (kA (kM) ad s.heap.size)) (F0 m 42 ls []) := by
              intro q
              induction q with
              | zero => intro k ρk y4 H locs ls hj_k hq_k; exact absurd hq_k (by omega)
              | succ q ih_k =>
                intro k ρk y4 H locs ls hj_k hq_k hI_k hP hD hS hl
                obtain ⟨rfl, hI_k⟩ := hI_k
                refine lv_iload hx hb kd_M_needs_42 (lv_at hl 5 rfl) ?_
                refine lv_bipush (v := 32) hx hb kd_M_needs_44 (by decide) ?_
                refine lv_icmp_ge (tgt := 136) hx hb kd_M_needs_46 (by decide) (fun c_13 => ?_) (fun c_13 => ?_)
                · have hje_k : k = 32 := lp_end (by decide) hj_k c_13
                  refine lv_iinc (v := nI (j + 1 + 1)) (lv' := [(5, .int (nI (j + 1 + 1))), (0, .ref (ad (0, 0))), (1, .int (nI (i + 1))), (2, .long t), (4, .int y4), (6, .int (nI k))]) hx hb kd_M_needs_136 hl (k := 3) rfl (nI_1 (j + 1)) (by decide) rfl (fun ls hl => ?_)
                  refine lv_goto (tgt := 32) hx hb kd_M_needs_139 (by decide) ?_
                  exact ih_j (j + 1) τ9 y4 _ _ _ hlt_j (by omega) ⟨rfl, by rw [hje_k] at hI_k; rw [← ndE_o]; exact hI_k⟩ hP hD hS (lv_sub hl [1, 2, 3, 4, 0] rfl)
                · have hlt_k : k < 32 := lp_go (by decide) hj_k c_13
                  refine lv_iload hx hb kd_M_needs_49 (lv_at hl 4 rfl) ?_
                  refine lv_if_ne (tgt := 123) hx hb kd_M_needs_51 (by decide) (fun c_14 => ?_) (fun c_14 => ?_)
                  · refine lv_iconst (v := 1) hx hb kd_M_needs_123 (by decide) ?_
                    refine lv_goto (tgt := 128) hx hb kd_M_needs_124 (by decide) ?_
                    refine lv_istore (lv' := [(4, .int 1), (0, .ref (ad (0, 0))), (1, .int (nI (i + 1))), (2, .long t), (5, .int (nI (j + 1))), (6, .int (nI k))]) hx hb kd_M_needs_128 hl (by decide) rfl (fun ls hl => ?_)
                    refine lv_iinc (v := nI (k + 1)) (lv' := [(6, .int (nI (k + 1))), (4, .int 1), (0, .ref (ad (0, 0))), (1, .int (nI (i + 1))), (2, .long t), (5, .int (nI (j + 1)))]) hx hb kd_M_needs_130 hl (k := 5) rfl (nI_1 k) (by decide) rfl (fun ls hl => ?_)
                    refine lv_goto (tgt := 42) hx hb kd_M_needs_133 (by decide) ?_
                    exact ih_k (k + 1) τ9 1 _ _ _ hlt_k (by omega) ⟨rfl, isE_1 hI_k c_14 ndE_s⟩ hP hD hS (lv_sub hl [2, 3, 4, 5, 1, 0] rfl)
                  · refine lv_aload_n hx hb kd_M_needs_54 rfl (lv_at hl 0 rfl) ?_
                    refine lv_iload hx hb kd_M_needs_55 (lv_at hl 3 rfl) ?_
                    refine lv_iload_n hx hb kd_M_needs_57 rfl (lv_at hl 1 rfl) ?_
                    refine kx_Si (G := gM n ad cI cZ cL) (σ := τ9) (As := [.int (nI (i + 1))]) (rest := [.int (nI (j + 1)), .ref (ad (0, 0))]) (n := 1) hx hb hml hown hts hT (ct_M_bus l D hn ad cI cZ cL τ9 (by omega) H.size) kw_338 kw_339 kw_5 kw_340 (by decide +kernel) ⟨rfl, rfl⟩ ⟨Nat.le_of_ble_eq_true rfl, Nat.le_of_ble_eq_true rfl⟩ hK hP hD hS rfl hl.1 (Nat.le_of_ble_eq_true rfl) kd_M_needs_58 rfl ⟨Nat.zero_le _, Nat.zero_le _⟩ (fun r_15 τ16 H locs hq17 hP hD hS => ?_)
                    obtain ⟨rfl, rfl⟩ := hq17
                    refine kx_Vi (G := gM n ad cI cZ cL) (σ := τ9) (κ := (0, 0)) (ci := 3) (fs := thisM ad n τ9) (As := [.int (nI (j + 1)), .int (nI ((i + 1 + 7) / 8))]) (rest := []) (n := 2) hx hb hml hown hts hT (ct_M_one l D hn ad cI cZ cL τ9 (by omega) (by omega) H.size) kw_341 kw_343 ks_22 kw_5 kw_344 (by decide +kernel) ⟨rfl, rfl⟩ ⟨Nat.le_of_ble_eq_true rfl, Nat.le_of_ble_eq_true rfl⟩ hK hP hD hS kM_0 rfl rfl rfl hl.1 (Nat.le_of_ble_eq_true rfl) kd_M_needs_61 rfl ⟨Nat.zero_le _, Nat.zero_le _⟩ (fun r_18 τ19 H locs hq20 hP hD hS => ?_)
                    obtain ⟨⟨rfl, q_21⟩ | ⟨rfl, q_21⟩, rfl⟩ := hq20
                    · refine lv_if_eq (tgt := 127) hx hb kd_M_needs_64 (by decide) (fun c0 => absurd c0 (by decide)) (fun _ => ?_)
                      refine lv_aload_n hx hb kd_M_needs_67 rfl (lv_at hl 0 rfl) ?_
                      refine kx_get (ci := 3) (fs := thisM ad n τ9) (v := .ref (ad (5, 0))) hx hb hw ki_M hown hK hP kM_0 rfl rfl 6 (by decide) kw_247 rfl rfl kd_M_needs_68 ?_
                      refine lv_iload_n hx hb kd_M_needs_71 rfl (lv_at hl 1 rfl) ?_
                      refine kx_iald (i := i + 1) hx hb hK hP kM_5 0 rfl rfl rfl (by omega) (by decide) kd_M_needs_72 ?_
                      refine lv_iload hx hb kd_M_needs_73 (lv_at hl 5 rfl) ?_
                      refine lv_ishr hx hb kd_M_needs_75 ?_
                      refine lv_iconst (v := 1) hx hb kd_M_needs_76 (by decide) ?_
                      refine lv_iand hx hb kd_M_needs_77 ?_
                      refine lv_iconst (v := 1) hx hb kd_M_needs_78 (by decide) ?_
                      refine lv_icmp_ne (tgt := 127) hx hb kd_M_needs_79 (by decide) (fun c_22 => ?_) (fun c_22 => ?_)
                      · refine lv_iconst (v := 0) hx hb kd_M_needs_127 (by decide) ?_
                        refine lv_istore (lv' := [(4, .int 0), (0, .ref (ad (0, 0))), (1, .int (nI (i + 1))), (2, .long t), (5, .int (nI (j + 1))), (6, .int (nI k))]) hx hb kd_M_needs_128 hl (by decide) rfl (fun ls hl => ?_)
                        refine lv_iinc (v := nI (k + 1)) (lv' := [(6, .int (nI (k + 1))), (4, .int 0), (0, .ref (ad (0, 0))), (1, .int (nI (i + 1))), (2, .long t), (5, .int (nI (j + 1)))]) hx hb kd_M_needs_130 hl (k := 5) rfl (nI_1 k) (by decide) rfl (fun ls hl => ?_)
                        refine lv_goto (tgt := 42) hx hb kd_M_needs_133 (by decide) ?_
                        exact ih_k (k + 1) τ9 0 _ _ _ hlt_k (by omega) ⟨rfl, isE_0 hI_k c_14 (fun y => ndE_n y (fun z => c_22 z.2.1))⟩ hP hD hS (lv_sub hl [2, 3, 4, 5, 1, 0] rfl)
                      · refine lv_aload_n hx hb kd_M_needs_82 rfl (lv_at hl 0 rfl) ?_
                        refine kx_get (ci := 3) (fs := thisM ad n τ9) (v := .ref (ad (13, 0))) hx hb hw ki_M hown hK hP kM_0 rfl rfl 14 (by decide) kw_255 rfl rfl kd_M_needs_83 ?_
                        refine lv_bipush (v := 32) hx hb kd_M_needs_86 (by decide) ?_
                        refine lv_iload hx hb kd_M_needs_88 (lv_at hl 3 rfl) ?_
                        refine lv_imul hx hb kd_M_needs_90 ?_
                        refine lv_iload hx hb kd_M_needs_91 (lv_at hl 5 rfl) ?_
                        refine lv_iadd hx hb kd_M_needs_93 ?_
                        refine kx_zald (i := 32 * (j + 1) + k) hx hb hK hP kM_13 1 rfl rfl (ix32 (j + 1) k) (by omega) (by decide) kd_M_needs_94 ?_
                        refine lv_if_eq (tgt := 127) hx hb kd_M_needs_95 (by decide) (fun c_23 => ?_) (fun c_23 => ?_)
                        · refine lv_iconst (v := 0) hx hb kd_M_needs_127 (by decide) ?_
                          refine lv_istore (lv' := [(4, .int 0), (0, .ref (ad (0, 0))), (1, .int (nI (i + 1))), (2, .long t), (5, .int (nI (j + 1))), (6, .int (nI k))]) hx hb kd_M_needs_128 hl (by decide) rfl (fun ls hl => ?_)
                          refine lv_iinc (v := nI (k + 1)) (lv' := [(6, .int (nI (k + 1))), (4, .int 0), (0, .ref (ad (0, 0))), (1, .int (nI (i + 1))), (2, .long t), (5, .int (nI (j + 1)))]) hx hb kd_M_needs_130 hl (k := 5) rfl (nI_1 k) (by decide) rfl (fun ls hl => ?_)
                          refine lv_goto (tgt := 42) hx hb kd_M_needs_133 (by decide) ?_
                          exact ih_k (k + 1) τ9 0 _ _ _ hlt_k (by omega) ⟨rfl, isE_0 hI_k c_14 (fun y => ndE_n y (fun z => z.2.2.1 c_23))⟩ hP hD hS (lv_sub hl [2, 3, 4, 5, 1, 0] rfl)
                        · refine lv_aload_n hx hb kd_M_needs_98 rfl (lv_at hl 0 rfl) ?_
                          refine kx_get (ci := 3) (fs := thisM ad n τ9) (v := .long τ9.2.2.2.2.1) hx hb hw ki_M hown hK hP kM_0 rfl rfl 15 (by decide) kw_256 rfl rfl kd_M_needs_99 ?_
                          refine lv_aload_n hx hb kd_M_needs_102 rfl (lv_at hl 0 rfl) ?_
                          refine kx_get (ci := 3) (fs := thisM ad n τ9) (v := .ref (ad (12, 0))) hx hb hw ki_M hown hK hP kM_0 rfl rfl 13 (by decide) kw_254 rfl rfl kd_M_needs_103 ?_
                          refine lv_bipush (v := 32) hx hb kd_M_needs_106 (by decide) ?_
                          refine lv_iload hx hb kd_M_needs_108 (lv_at hl 3 rfl) ?_
                          refine lv_imul hx hb kd_M_needs_110 ?_
                          refine lv_iload hx hb kd_M_needs_111 (lv_at hl 5 rfl) ?_
                          refine lv_iadd hx hb kd_M_needs_113 ?_
                          refine kx_lald (i := 32 * (j + 1) + k) hx hb hK hP kM_12 2 rfl rfl (ix32 (j + 1) k) (by omega) (by decide) kd_M_needs_114 ?_
                          refine lv_lsub hx hb kd_M_needs_115 ?_
                          refine lv_ldc2 (v := 11) hx hb hown (hw _ kw_371) kd_M_needs_116 ?_
                          refine W.lcmp hx hb kd_M_needs_119 ?_
                          refine lv_if_ge (tgt := 127) hx hb kd_M_needs_120 (by decide) (fun c_24 => ?_) (fun c_24 => ?_)
                          · have c_24 := (lg_cmp_ge _ _).mp c_24
                            refine lv_iconst (v := 0) hx hb kd_M_needs_127 (by decide) ?_
                            refine lv_istore (lv' := [(4, .int 0), (0, .ref (ad (0, 0))), (1, .int (nI (i + 1))), (2, .long t), (5, .int (nI (j + 1))), (6, .int (nI k))]) hx hb kd_M_needs_128 hl (by decide) rfl (fun ls hl => ?_)
                            refine lv_iinc (v := nI (k + 1)) (lv' := [(6, .int (nI (k + 1))), (4, .int 0), (0, .ref (ad (0, 0))), (1, .int (nI (i + 1))), (2, .long t), (5, .int (nI (j + 1)))]) hx hb kd_M_needs_130 hl (k := 5) rfl (nI_1 k) (by decide) rfl (fun ls hl => ?_)
                            refine lv_goto (tgt := 42) hx hb kd_M_needs_133 (by decide) ?_
                            exact ih_k (k + 1) τ9 0 _ _ _ hlt_k (by omega) ⟨rfl, isE_0 hI_k c_14 (fun y => ndE_n y (fun z => z.2.2.2 c_24))⟩ hP hD hS (lv_sub hl [2, 3, 4, 5, 1, 0] rfl)
                          · have c_24 := fun h => c_24 ((lg_cmp_ge _ _).mpr h)
                            refine lv_iconst (v := 1) hx hb kd_M_needs_123 (by decide) ?_
                            refine lv_goto (tgt := 128) hx hb kd_M_needs_124 (by decide) ?_
                            refine lv_istore (lv' := [(4, .int 1), (0, .ref (ad (0, 0))), (1, .int (nI (i + 1))), (2, .long t), (5, .int (nI (j + 1))), (6, .int (nI k))]) hx hb kd_M_needs_128 hl (by decide) rfl (fun ls hl => ?_)
                            refine lv_iinc (v := nI (k + 1)) (lv' := [(6, .int (nI (k + 1))), (4, .int 1), (0, .ref (ad (0, 0))), (1, .int (nI (i + 1))), (2, .long t), (5, .int (nI (j + 1)))]) hx hb kd_M_needs_130 hl (k := 5) rfl (nI_1 k) (by decide) rfl (fun ls hl => ?_)
                            refine lv_goto (tgt := 42) hx hb kd_M_needs_133 (by decide) ?_
                            exact ih_k (k + 1) τ9 1 _ _ _ hlt_k (by omega) ⟨rfl, Or.inl ⟨rfl, ndE_y ⟨q_21, c_22, c_23, c_24⟩⟩⟩ hP hD hS (lv_sub hl [2, 3, 4, 5, 1, 0] rfl)
                    · refine lv_if_eq (tgt := 127) hx hb kd_M_needs_64 (by decide) (fun _ => ?_) (fun c0 => absurd (by decide) c0)
                      refine lv_iconst (v := 0) hx hb kd_M_needs_127 (by decide) ?_
                      refine lv_istore (lv' := [(4, .int 0), (0, .ref (ad (0, 0))), (1, .int (nI (i + 1))), (2, .long t), (5, .int (nI (j + 1))), (6, .int (nI k))]) hx hb kd_M_needs_128 hl (by decide) rfl (fun ls hl => ?_)
                      refine lv_iinc (v := nI (k + 1)) (lv' := [(6, .int (nI (k + 1))), (4, .int 0), (0, .ref (ad (0, 0))), (1, .int (nI (i + 1))), (2, .long t), (5, .int (nI (j + 1)))]) hx hb kd_M_needs_130 hl (k := 5) rfl (nI_1 k) (by decide) rfl (fun ls hl => ?_)
                      refine lv_goto (tgt := 42) hx hb kd_M_needs_133 (by decide) ?_
                      exact ih_k (k + 1) τ9 0 _ _ _ hlt_k (by omega) ⟨rfl, isE_0 hI_k c_14 (fun y => ndE_n y (fun z => q_21 z.1))⟩ hP hD hS (lv_sub hl [2, 3, 4, 5, 1, 0] rfl)
            exact loop2 (32 + 1) 0 τ9 x4 _ _ _ (Nat.zero_le _) (by omega) ⟨rfl, hI_j⟩ hP hD hS (lv_sub hl [1, 2, 3, 5, 4, 0] rfl)
      exact loop (8 + 1) 0 τ9 0 _ _ _ (Nat.zero_le _) (by omega) ⟨rfl, Or.inr ⟨rfl, ndE_0 _ _⟩⟩ hP hD hS (lv_sub hl [2, 3, 4, 1, 0] rfl)
    · refine lv_if_eq (tgt := 21) hx hb kd_M_needs_15 (by decide) (fun c0 => absurd c0 (by decide)) (fun _ => ?_)
      refine lv_bipush (v := (-2)) hx hb kd_M_needs_18 (by decide) ?_
      exact W.iret (v := (-2)) hx hb hr (fun t ht hW => ⟨⟨(-2), τ2, rfl, ndP_y hn.2 hi rfl ⟨fun z => absurd z (by subst hτ2; exact q_7), fun _ => by rw [hτ2]⟩, by rw [ht]; exact hP, va_K.moved hW.alike hK, hD.weaken (fun _ _ _ _ => trivial)⟩, hS.F ht⟩) hS.2.2 kd_M_needs_20
  · refine lv_if_eq (tgt := 10) hx hb kd_M_needs_5 (by decide) (fun c0 => absurd c0 (by decide)) (fun _ => ?_)
    refine lv_iconst (v := (-1)) hx hb kd_M_needs_8 (by decide) ?_
    exact W.iret (v := (-1)) hx hb hr (fun t ht hW => ⟨⟨(-1), τ2, rfl, ndP_n hno (by rw [hτ2]), by rw [ht]; exact hP, va_K.moved hW.alike hK, hD.weaken (fun _ _ _ _ => trivial)⟩, hS.F ht⟩) hS.2.2 kd_M_needs_9
def mNvT (σ : MS) (x : Int32) : Nat → Nat → Int32 → Int32
  | 0, _, _ => 0
  | f + 1, j, at_ => if (σ.1 (j + 1)).1 = 3 then (if σ.2.2.2.2.1 - (σ.1 (j + 1)).2.2.2.2.2.1 ≤ 199 then mNvT σ x f (j + 1) at_ else if at_ = x then nI (j + 1) else mNvT σ x f (j + 1) (at_ + 1)) else mNvT σ x f (j + 1) at_
set_option maxHeartbeats 4000000 in
set_option maxRecDepth 100000 in
theorem ct_M_never (l : Launch) (D : va_G) {n : Nat} (hn : 1 ≤ n ∧ n ≤ 64) (ad : Nat × Nat → Nat) (cI cZ cL : ClassId) (σ : MS) (x : Int32) (sz : Nat) : Met l ky_M_never (km ky_M_never kc_M_never 4 (some .int)) ({ frames := 0, cells := 0, slots := 0, locals := 0 }) (mPre D n ad cI cZ cL σ [.ref (ad (0, 0)), .int x] sz) (mQi D n ad cI cZ cL sz (fun r τ => r = mNvT (mC0 σ) x n 0 0 ∧ mC0 σ = τ)) 0 0 (kA (kM) ad sz) := by
  refine Met.ofW (cc := kc_M_never) (maxL := 4) (ret := (some .int)) (by decide) rfl ?_
  intro p e s m args below meth c s₁ B hml hv
  obtain ⟨rfl, hsz, hP, hK, hD0⟩ := hv
  have hx := B.exec
  have hb := B.bytes
  have hr := B.returns
  have hts := atoms_spec (ws := km ky_M_never kc_M_never 4 (some .int)) B.pre
  have hT : ∀ w ∈ kB_l, w ∈ km ky_M_never kc_M_never 4 (some .int) := fun w h => List.mem_cons_of_mem _ h
  have hw := fun w h => hts w (hT w h)
  have hown : s.vm.findClass kR_M = some m.cls := findClass_of_methodNamed B.named
  have hlocks := B.notSynchronized
  subst hsz
  have hD : va_D (kA (kM) ad s.heap.size) (kW (kM) ad (gM n ad cI cZ cL σ)) := kD_any _ hD0
  have hS : va_S (kA (kM) ad s.heap.size) s.heap s.heap [] := va_S.rf
  have hl := lv_entry ([.ref (ad (0, 0)), .int x]) (n := 4) (Nat.le_of_ble_eq_true rfl)
  rw [lg_entry_eq]
  generalize (lg_sl ([.ref (ad (0, 0)), .int x]) ++ List.replicate (4 - (lg_sl ([.ref (ad (0, 0)), .int x])).length) Slot.unset).toArray = ls at hl ⊢
  have hl : lv_has ls 4 [(0, .ref (ad (0, 0))), (1, .int x)] := hl
  refine lv_aload_n hx hb kd_M_never_0 rfl (lv_at hl 0 rfl) ?_
  refine lv_iconst (v := 0) hx hb kd_M_never_1 (by decide) ?_
  refine kx_put (ci := 3) (fs := thisM ad n σ) (v := .int 0) (g2 := gM n ad cI cZ cL (σ.1, σ.2.1, σ.2.2.1, σ.2.2.2.1, σ.2.2.2.2.1, σ.2.2.2.2.2.1, 0)) hx hb hw ki_M kt_M ko_M kn_M hown hK hP hD hS kM_0 rfl rfl 0 (by decide) kw_241 rfl rfl rfl rfl (Nat.le_of_ble_eq_true rfl) (gM_S rfl) kd_M_never_2 (fun H locs hP hD hS => ?_)
  generalize hτ1 : ((σ.1, σ.2.1, σ.2.2.1, σ.2.2.2.1, σ.2.2.2.2.1, σ.2.2.2.2.2.1, 0) : MS) = τ1 at hP hD
  refine lv_iconst (v := 0) hx hb kd_M_never_5 (by decide) ?_
  refine lv_istore_n (lv' := [(2, .int 0), (0, .ref (ad (0, 0))), (1, .int x)]) hx hb kd_M_never_6 rfl hl (by decide) rfl (fun ls hl => ?_)
  refine lv_iconst (v := 1) hx hb kd_M_never_7 (by decide) ?_
  refine lv_istore_n (lv' := [(3, .int 1), (2, .int 0), (0, .ref (ad (0, 0))), (1, .int x)]) hx hb kd_M_never_8 rfl hl (by decide) rfl (fun ls hl => ?_)
  have loop : ∀ (q j : Nat) (ρj : MS) (x2 : Int32) (H : Heap) (locs : List Loc) (ls : Array Slot), j ≤ n → n < j + q → (τ1 = ρj ∧ mNvT τ1 x (n - j) j x2 = mNvT τ1 x n 0 0) → va_P D kCl (kW (kM) ad (gM n ad cI cZ cL ρj)) H → va_D (kA (kM) ad s.heap.size) (kW (kM) ad (gM n ad cI cZ cL ρj)) → va_S (kA (kM) ad s.heap.size) s.heap H locs → lv_has ls 4 [(0, .ref (ad (0, 0))), (1, .int x), (2, .int x2), (3, .int (nI (j + 1)))] → W p l e (headSpec (km ky_M_never kc_M_never 4 (some .int)) ({ frames := 0, cells := 0, slots := 0, locals := 0 })).room s m [.ref (ad (0, 0)), .int x].toArray below meth c H locs 0 0 (MQ below (mQi D n ad cI cZ cL s.heap.size (fun r τ => r = mNvT (mC0 σ) x n 0 0 ∧ mC0 σ = τ)) [.ref (ad (0, 0)), .int x].toArray s 0 0 (kA (kM) ad s.heap.size)) (F0 m 9 ls []) := by
    intro q
    induction q with
    | zero => intro j ρj x2 H locs ls hj_j hq_j; exact absurd hq_j (by omega)
    | succ q ih_j =>
      intro j ρj x2 H locs ls hj_j hq_j hI_j hP hD hS hl
      obtain ⟨rfl, hI_j⟩ := hI_j
      refine lv_iload_n hx hb kd_M_never_9 rfl (lv_at hl 3 rfl) ?_
      refine lv_aload_n hx hb kd_M_never_10 rfl (lv_at hl 0 rfl) ?_
      refine kx_get (ci := 3) (fs := thisM ad n τ1) (v := .int (nI n)) hx hb hw ki_M hown hK hP kM_0 rfl rfl 1 (by decide) kw_242 rfl rfl kd_M_never_11 ?_
      refine lv_icmp_gt (tgt := 61) hx hb kd_M_never_14 (by decide) (fun c_2 => ?_) (fun c_2 => ?_)
      · have hje_j : j = n := lp_endg (by omega) hj_j c_2
        refine lv_iconst (v := 0) hx hb kd_M_never_61 (by decide) ?_
        exact W.iret (v := 0) hx hb hr (fun t ht hW => ⟨⟨0, τ1, rfl, ⟨by rw [show mC0 σ = τ1 from hτ1, ← hI_j, hje_j, Nat.sub_self]; rfl, hτ1⟩, by rw [ht]; exact hP, va_K.moved hW.alike hK, hD.weaken (fun _ _ _ _ => trivial)⟩, hS.F ht⟩) hS.2.2 kd_M_never_62
      · have hlt_j : j < n := lp_gog (by omega) hj_j c_2
        have hf_j : n - j = (n - (j + 1)) + 1 := by omega
        refine lv_aload_n hx hb kd_M_never_17 rfl (lv_at hl 0 rfl) ?_
        refine kx_get (ci := 3) (fs := thisM ad n τ1) (v := .ref (ad (1, 0))) hx hb hw ki_M hown hK hP kM_0 rfl rfl 2 (by decide) kw_243 rfl rfl kd_M_never_18 ?_
        refine lv_iload_n hx hb kd_M_never_21 rfl (lv_at hl 3 rfl) ?_
        refine kx_iald (i := j + 1) hx hb hK hP kM_1 0 rfl rfl rfl (by omega) (by decide) kd_M_never_22 ?_
        refine lv_iconst (v := 3) hx hb kd_M_never_23 (by decide) ?_
        refine lv_icmp_ne (tgt := 55) hx hb kd_M_never_24 (by decide) (fun c_3 => ?_) (fun c_3 => ?_)
        · refine lv_iinc (v := nI (j + 1 + 1)) (lv' := [(3, .int (nI (j + 1 + 1))), (0, .ref (ad (0, 0))), (1, .int x), (2, .int x2)]) hx hb kd_M_never_55 hl (k := 3) rfl (nI_1 (j + 1)) (by decide) rfl (fun ls hl => ?_)
          refine lv_goto (tgt := 9) hx hb kd_M_never_58 (by decide) ?_
          exact ih_j (j + 1) τ1 x2 _ _ _ hlt_j (by omega) ⟨rfl, by rw [← hI_j, hf_j, mNvT, if_neg c_3]⟩ hP hD hS (lv_sub hl [1, 2, 3, 0] rfl)
        · refine lv_aload_n hx hb kd_M_never_27 rfl (lv_at hl 0 rfl) ?_
          refine kx_get (ci := 3) (fs := thisM ad n τ1) (v := .long τ1.2.2.2.2.1) hx hb hw ki_M hown hK hP kM_0 rfl rfl 15 (by decide) kw_256 rfl rfl kd_M_never_28 ?_
          refine lv_aload_n hx hb kd_M_never_31 rfl (lv_at hl 0 rfl) ?_
          refine kx_get (ci := 3) (fs := thisM ad n τ1) (v := .ref (ad (6, 0))) hx hb hw ki_M hown hK hP kM_0 rfl rfl 7 (by decide) kw_248 rfl rfl kd_M_never_32 ?_
          refine lv_iload_n hx hb kd_M_never_35 rfl (lv_at hl 3 rfl) ?_
          refine kx_lald (i := j + 1) hx hb hK hP kM_6 2 rfl rfl rfl (by omega) (by decide) kd_M_never_36 ?_
          refine lv_lsub hx hb kd_M_never_37 ?_
          refine lv_ldc2 (v := 199) hx hb hown (hw _ kw_384) kd_M_never_38 ?_
          refine W.lcmp hx hb kd_M_never_41 ?_
          refine lv_if_le (tgt := 55) hx hb kd_M_never_42 (by decide) (fun c_4 => ?_) (fun c_4 => ?_)
          · have c_4 := (lg_cmp_le _ _).mp c_4
            refine lv_iinc (v := nI (j + 1 + 1)) (lv' := [(3, .int (nI (j + 1 + 1))), (0, .ref (ad (0, 0))), (1, .int x), (2, .int x2)]) hx hb kd_M_never_55 hl (k := 3) rfl (nI_1 (j + 1)) (by decide) rfl (fun ls hl => ?_)
            refine lv_goto (tgt := 9) hx hb kd_M_never_58 (by decide) ?_
            exact ih_j (j + 1) τ1 x2 _ _ _ hlt_j (by omega) ⟨rfl, by rw [← hI_j, hf_j, mNvT, if_pos c_3, if_pos c_4]⟩ hP hD hS (lv_sub hl [1, 2, 3, 0] rfl)
          · have c_4 := fun h => c_4 ((lg_cmp_le _ _).mpr h)
            refine lv_iload_n hx hb kd_M_never_45 rfl (lv_at hl 2 rfl) ?_
            refine lv_iload_n hx hb kd_M_never_46 rfl (lv_at hl 1 rfl) ?_
            refine lv_icmp_ne (tgt := 52) hx hb kd_M_never_47 (by decide) (fun c_5 => ?_) (fun c_5 => ?_)
            · refine lv_iinc (v := x2 + 1) (lv' := [(2, .int (x2 + 1)), (0, .ref (ad (0, 0))), (1, .int x), (3, .int (nI (j + 1)))]) hx hb kd_M_never_52 hl (k := 2) rfl rfl (by decide) rfl (fun ls hl => ?_)
              refine lv_iinc (v := nI (j + 1 + 1)) (lv' := [(3, .int (nI (j + 1 + 1))), (2, .int (x2 + 1)), (0, .ref (ad (0, 0))), (1, .int x)]) hx hb kd_M_never_55 hl (k := 3) rfl (nI_1 (j + 1)) (by decide) rfl (fun ls hl => ?_)
              refine lv_goto (tgt := 9) hx hb kd_M_never_58 (by decide) ?_
              exact ih_j (j + 1) τ1 (x2 + 1) _ _ _ hlt_j (by omega) ⟨rfl, by rw [← hI_j, hf_j, mNvT, if_pos c_3, if_neg c_4, if_neg c_5]⟩ hP hD hS (lv_sub hl [2, 3, 1, 0] rfl)
            · refine lv_iload_n hx hb kd_M_never_50 rfl (lv_at hl 3 rfl) ?_
              exact W.iret (v := nI (j + 1)) hx hb hr (fun t ht hW => ⟨⟨nI (j + 1), τ1, rfl, ⟨by rw [show mC0 σ = τ1 from hτ1, ← hI_j, hf_j, mNvT, if_pos c_3, if_neg c_4, if_pos c_5], hτ1⟩, by rw [ht]; exact hP, va_K.moved hW.alike hK, hD.weaken (fun _ _ _ _ => trivial)⟩, hS.F ht⟩) hS.2.2 kd_M_never_51
  exact loop (n + 1) 0 τ1 0 _ _ _ (Nat.zero_le _) (by omega) ⟨rfl, rfl⟩ hP hD hS (lv_sub hl [2, 3, 1, 0] rfl)
def mLiS (σ : MS) (v : Nat) (o : Int32) : MS :=
  let s1 : MS := setM σ v ((σ.1 v).1, (σ.1 v).2.1, (σ.1 v).2.2.1, o, (σ.1 v).2.2.2.2.1, (σ.1 v).2.2.2.2.2.1, (σ.1 v).2.2.2.2.2.2.1, (σ.1 v).2.2.2.2.2.2.2.1, (σ.1 v).2.2.2.2.2.2.2.2.1, (σ.1 v).2.2.2.2.2.2.2.2.2)
  let s2 : MS := setM s1 v (0, (s1.1 v).2.1, (s1.1 v).2.2.1, (s1.1 v).2.2.2.1, (s1.1 v).2.2.2.2.1, (s1.1 v).2.2.2.2.2.1, (s1.1 v).2.2.2.2.2.2.1, (s1.1 v).2.2.2.2.2.2.2.1, (s1.1 v).2.2.2.2.2.2.2.2.1, (s1.1 v).2.2.2.2.2.2.2.2.2)
  setM s2 v ((s2.1 v).1, 0, (s2.1 v).2.2.1, (s2.1 v).2.2.2.1, (s2.1 v).2.2.2.2.1, (s2.1 v).2.2.2.2.2.1, (s2.1 v).2.2.2.2.2.2.1, (s2.1 v).2.2.2.2.2.2.2.1, (s2.1 v).2.2.2.2.2.2.2.2.1, (s2.1 v).2.2.2.2.2.2.2.2.2)
theorem mLi_o (σ : MS) (v : Nat) (o : Int32) : ((mLiS σ v o).1 v).2.2.2.1 = o := by simp [mLiS, setM, va_up]
def mLiF (n : Nat) (σ : MS) (v : Nat) (t : Int64) : Int32 × MS :=
  let s0 : MS := mC0 σ
  if okT s0.2.2.2.2.1 t then
    (let s1 : MS := mGoT n s0 t
     if (s1.1 v).2.2.2.1 = 0 then (1, mLiS s1 v 1) else (0, mLiS s1 v 0))
  else (-2, s0)
set_option maxHeartbeats 4000000 in
set_option maxRecDepth 100000 in
theorem ct_M_limp (l : Launch) (D : va_G) {n : Nat} (hn : 1 ≤ n ∧ n ≤ 64) (ad : Nat × Nat → Nat) (cI cZ cL : ClassId) (σ : MS) (k : Int32) (t : Int64) {a : Nat} (ha : σ.2.2.2.2.1 = lN a) (hA : a < 2 ^ 30) (sz : Nat) : Met l ky_M_limp (km ky_M_limp kc_M_limp 4 (some .int)) ({ frames := 5, cells := 0, slots := 0, locals := 111 }) (mPre D n ad cI cZ cL σ [.ref (ad (0, 0)), .int k, .long t] sz) (mQi D n ad cI cZ cL sz (fun r τ => ndP n k (fun i => (r, τ) = mLiF n σ (i + 1) t) ((r, τ) = (-1, mC0 σ)))) 0 0 (kA (kM) ad sz) := by
  refine Met.ofW (cc := kc_M_limp) (maxL := 4) (ret := (some .int)) (by decide) rfl ?_
  intro p e s m args below meth c s₁ B hml hv
  obtain ⟨rfl, hsz, hP, hK, hD0⟩ := hv
  have hx := B.exec
  have hb := B.bytes
  have hr := B.returns
  have hts := atoms_spec (ws := km ky_M_limp kc_M_limp 4 (some .int)) B.pre
  have hT : ∀ w ∈ kB_l, w ∈ km ky_M_limp kc_M_limp 4 (some .int) := fun w h => List.mem_cons_of_mem _ h
  have hw := fun w h => hts w (hT w h)
  have hown : s.vm.findClass kR_M = some m.cls := findClass_of_methodNamed B.named
  have hlocks := B.notSynchronized
  subst hsz
  have hD : va_D (kA (kM) ad s.heap.size) (kW (kM) ad (gM n ad cI cZ cL σ)) := kD_any _ hD0
  have hS : va_S (kA (kM) ad s.heap.size) s.heap s.heap [] := va_S.rf
  have hl := lv_entry ([.ref (ad (0, 0)), .int k, .long t]) (n := 4) (Nat.le_of_ble_eq_true rfl)
  rw [lg_entry_eq]
  generalize (lg_sl ([.ref (ad (0, 0)), .int k, .long t]) ++ List.replicate (4 - (lg_sl ([.ref (ad (0, 0)), .int k, .long t])).length) Slot.unset).toArray = ls at hl ⊢
  have hl : lv_has ls 4 [(0, .ref (ad (0, 0))), (1, .int k), (2, .long t)] := hl
  refine lv_aload_n hx hb kd_M_limp_0 rfl (lv_at hl 0 rfl) ?_
  refine lv_iload_n hx hb kd_M_limp_1 rfl (lv_at hl 1 rfl) ?_
  refine kx_Vi (G := gM n ad cI cZ cL) (σ := σ) (κ := (0, 0)) (ci := 3) (fs := thisM ad n σ) (As := [.int k]) (rest := []) (n := 1) hx hb hml hown hts hT (ct_M_none l D hn ad cI cZ cL σ k s.heap.size) kw_299 kw_301 ks_14 kw_5 kw_302 (by decide +kernel) ⟨rfl, rfl⟩ ⟨Nat.le_of_ble_eq_true rfl, Nat.le_of_ble_eq_true rfl⟩ hK hP hD hS kM_0 rfl rfl rfl hl.1 (Nat.le_of_ble_eq_true rfl) kd_M_limp_2 rfl ⟨Nat.zero_le _, Nat.zero_le _⟩ (fun r_1 τ2 H locs hq3 hP hD hS => ?_)
  obtain ⟨⟨rfl, i, hi, hk⟩ | ⟨rfl, hno⟩, hτ2⟩ := hq3
  · subst hk
    refine lv_if_eq (tgt := 10) hx hb kd_M_limp_5 (by decide) (fun _ => ?_) (fun c0 => absurd (by decide) c0)
    refine lv_aload_n hx hb kd_M_limp_10 rfl (lv_at hl 0 rfl) ?_
    refine lv_lload_n hx hb kd_M_limp_11 rfl (lv_at hl 2 rfl) ?_
    refine kx_Vi (G := gM n ad cI cZ cL) (σ := τ2) (κ := (0, 0)) (ci := 3) (fs := thisM ad n τ2) (As := [.long t]) (rest := []) (n := 1) hx hb hml hown hts hT (ct_M_bad l D hn ad cI cZ cL τ2 t H.size) kw_319 kw_321 ks_18 kw_5 kw_322 (by decide +kernel) ⟨rfl, rfl⟩ ⟨Nat.le_of_ble_eq_true rfl, Nat.le_of_ble_eq_true rfl⟩ hK hP hD hS kM_0 rfl rfl rfl hl.1 (Nat.le_of_ble_eq_true rfl) kd_M_limp_12 rfl ⟨Nat.zero_le _, Nat.zero_le _⟩ (fun r_4 τ5 H locs hq6 hP hD hS => ?_)
    obtain ⟨⟨rfl, q_7⟩ | ⟨rfl, q_7⟩, rfl⟩ := hq6
    · refine lv_if_eq (tgt := 21) hx hb kd_M_limp_15 (by decide) (fun _ => ?_) (fun c0 => absurd (by decide) c0)
      refine lv_aload_n hx hb kd_M_limp_21 rfl (lv_at hl 0 rfl) ?_
      refine lv_lload_n hx hb kd_M_limp_22 rfl (lv_at hl 2 rfl) ?_
      refine kx_Vv (G := gM n ad cI cZ cL) (σ := τ2) (κ := (0, 0)) (ci := 3) (fs := thisM ad n τ2) (As := [.long t]) (rest := []) (n := 1) hx hb hml hown hts hT (ct_M_go l D hn ad cI cZ cL τ2 t q_7 (by rw [← hτ2]; exact ha) hA H.size) kw_324 kw_326 ks_19 kw_5 kw_327 (by decide +kernel) ⟨rfl, rfl⟩ ⟨Nat.le_of_ble_eq_true rfl, Nat.le_of_ble_eq_true rfl⟩ hK hP hD hS kM_0 rfl rfl rfl hl.1 (Nat.le_of_ble_eq_true rfl) kd_M_limp_23 rfl ⟨Nat.zero_le _, Nat.zero_le _⟩ (fun τ9 H locs hq10 hP hD hS => ?_)
      have hτ9 := hq10
      refine lv_aload_n hx hb kd_M_limp_26 rfl (lv_at hl 0 rfl) ?_
      refine kx_get (ci := 3) (fs := thisM ad n τ9) (v := .ref (ad (4, 0))) hx hb hw ki_M hown hK hP kM_0 rfl rfl 5 (by decide) kw_246 rfl rfl kd_M_limp_27 ?_
      refine lv_iload_n hx hb kd_M_limp_30 rfl (lv_at hl 1 rfl) ?_
      refine lv_aload_n hx hb kd_M_limp_31 rfl (lv_at hl 0 rfl) ?_
      refine kx_get (ci := 3) (fs := thisM ad n τ9) (v := .ref (ad (4, 0))) hx hb hw ki_M hown hK hP kM_0 rfl rfl 5 (by decide) kw_246 rfl rfl kd_M_limp_32 ?_
      refine lv_iload_n hx hb kd_M_limp_35 rfl (lv_at hl 1 rfl) ?_
      refine kx_zald (i := i + 1) hx hb hK hP kM_4 1 rfl rfl rfl (by omega) (by decide) kd_M_limp_36 ?_
      refine lv_if_ne (tgt := 44) hx hb kd_M_limp_37 (by decide) (fun c_11 => ?_) (fun c_11 => ?_)
      · refine lv_iconst (v := 0) hx hb kd_M_limp_44 (by decide) ?_
        refine kx_zast (i := i + 1) (g2 := gM n ad cI cZ cL (setM τ9 (i + 1) ((τ9.1 (i + 1)).1, (τ9.1 (i + 1)).2.1, (τ9.1 (i + 1)).2.2.1, 0, (τ9.1 (i + 1)).2.2.2.2.1, (τ9.1 (i + 1)).2.2.2.2.2.1, (τ9.1 (i + 1)).2.2.2.2.2.2.1, (τ9.1 (i + 1)).2.2.2.2.2.2.2.1, (τ9.1 (i + 1)).2.2.2.2.2.2.2.2.1, (τ9.1 (i + 1)).2.2.2.2.2.2.2.2.2))) hx hb hK hP hD hS kM_4 1 rfl rfl rfl rfl (by omega) (by decide) gM_4 kd_M_limp_45 (fun H locs hP hD hS => ?_)
        generalize hτ12 : (setM τ9 (i + 1) ((τ9.1 (i + 1)).1, (τ9.1 (i + 1)).2.1, (τ9.1 (i + 1)).2.2.1, 0, (τ9.1 (i + 1)).2.2.2.2.1, (τ9.1 (i + 1)).2.2.2.2.2.1, (τ9.1 (i + 1)).2.2.2.2.2.2.1, (τ9.1 (i + 1)).2.2.2.2.2.2.2.1, (τ9.1 (i + 1)).2.2.2.2.2.2.2.2.1, (τ9.1 (i + 1)).2.2.2.2.2.2.2.2.2) : MS) = τ12 at hP hD
        refine lv_aload_n hx hb kd_M_limp_46 rfl (lv_at hl 0 rfl) ?_
        refine kx_get (ci := 3) (fs := thisM ad n τ12) (v := .ref (ad (1, 0))) hx hb hw ki_M hown hK hP kM_0 rfl rfl 2 (by decide) kw_243 rfl rfl kd_M_limp_47 ?_
        refine lv_iload_n hx hb kd_M_limp_50 rfl (lv_at hl 1 rfl) ?_
        refine lv_iconst (v := 0) hx hb kd_M_limp_51 (by decide) ?_
        refine kx_iast (i := i + 1) (g2 := gM n ad cI cZ cL (setM τ12 (i + 1) (0, (τ12.1 (i + 1)).2.1, (τ12.1 (i + 1)).2.2.1, (τ12.1 (i + 1)).2.2.2.1, (τ12.1 (i + 1)).2.2.2.2.1, (τ12.1 (i + 1)).2.2.2.2.2.1, (τ12.1 (i + 1)).2.2.2.2.2.2.1, (τ12.1 (i + 1)).2.2.2.2.2.2.2.1, (τ12.1 (i + 1)).2.2.2.2.2.2.2.2.1, (τ12.1 (i + 1)).2.2.2.2.2.2.2.2.2))) hx hb hK hP hD hS kM_1 0 rfl rfl rfl (by omega) (by decide) gM_1 kd_M_limp_52 (fun H locs hP hD hS => ?_)
        generalize hτ13 : (setM τ12 (i + 1) (0, (τ12.1 (i + 1)).2.1, (τ12.1 (i + 1)).2.2.1, (τ12.1 (i + 1)).2.2.2.1, (τ12.1 (i + 1)).2.2.2.2.1, (τ12.1 (i + 1)).2.2.2.2.2.1, (τ12.1 (i + 1)).2.2.2.2.2.2.1, (τ12.1 (i + 1)).2.2.2.2.2.2.2.1, (τ12.1 (i + 1)).2.2.2.2.2.2.2.2.1, (τ12.1 (i + 1)).2.2.2.2.2.2.2.2.2) : MS) = τ13 at hP hD
        refine lv_aload_n hx hb kd_M_limp_53 rfl (lv_at hl 0 rfl) ?_
        refine kx_get (ci := 3) (fs := thisM ad n τ13) (v := .ref (ad (2, 0))) hx hb hw ki_M hown hK hP kM_0 rfl rfl 3 (by decide) kw_244 rfl rfl kd_M_limp_54 ?_
        refine lv_iload_n hx hb kd_M_limp_57 rfl (lv_at hl 1 rfl) ?_
        refine lv_iconst (v := 0) hx hb kd_M_limp_58 (by decide) ?_
        refine kx_zast (i := i + 1) (g2 := gM n ad cI cZ cL (setM τ13 (i + 1) ((τ13.1 (i + 1)).1, 0, (τ13.1 (i + 1)).2.2.1, (τ13.1 (i + 1)).2.2.2.1, (τ13.1 (i + 1)).2.2.2.2.1, (τ13.1 (i + 1)).2.2.2.2.2.1, (τ13.1 (i + 1)).2.2.2.2.2.2.1, (τ13.1 (i + 1)).2.2.2.2.2.2.2.1, (τ13.1 (i + 1)).2.2.2.2.2.2.2.2.1, (τ13.1 (i + 1)).2.2.2.2.2.2.2.2.2))) hx hb hK hP hD hS kM_2 1 rfl rfl rfl rfl (by omega) (by decide) gM_2 kd_M_limp_59 (fun H locs hP hD hS => ?_)
        generalize hτ14 : (setM τ13 (i + 1) ((τ13.1 (i + 1)).1, 0, (τ13.1 (i + 1)).2.2.1, (τ13.1 (i + 1)).2.2.2.1, (τ13.1 (i + 1)).2.2.2.2.1, (τ13.1 (i + 1)).2.2.2.2.2.1, (τ13.1 (i + 1)).2.2.2.2.2.2.1, (τ13.1 (i + 1)).2.2.2.2.2.2.2.1, (τ13.1 (i + 1)).2.2.2.2.2.2.2.2.1, (τ13.1 (i + 1)).2.2.2.2.2.2.2.2.2) : MS) = τ14 at hP hD
        refine lv_aload_n hx hb kd_M_limp_60 rfl (lv_at hl 0 rfl) ?_
        refine kx_get (ci := 3) (fs := thisM ad n τ14) (v := .ref (ad (4, 0))) hx hb hw ki_M hown hK hP kM_0 rfl rfl 5 (by decide) kw_246 rfl rfl kd_M_limp_61 ?_
        refine lv_iload_n hx hb kd_M_limp_64 rfl (lv_at hl 1 rfl) ?_
        refine kx_zald (i := i + 1) hx hb hK hP kM_4 1 rfl rfl rfl (by omega) (by decide) kd_M_limp_65 ?_
        have ho : (τ14.1 (i + 1)).2.2.2.1 = 0 := by subst hτ12; subst hτ13; subst hτ14; exact mLi_o _ (i + 1) 0
        refine lv_if_eq (tgt := 73) hx hb kd_M_limp_66 (by decide) (fun c_15 => ?_) (fun c_15 => ?_)
        · refine lv_iconst (v := 0) hx hb kd_M_limp_73 (by decide) ?_
          exact W.iret (v := 0) hx hb hr (fun t ht hW => ⟨⟨0, τ14, rfl, ndP_y hn.2 hi rfl (by subst hτ2; subst hτ9; subst hτ12; subst hτ13; subst hτ14; unfold mLiF; dsimp only; rw [if_pos q_7, if_neg c_11]; rfl), by rw [ht]; exact hP, va_K.moved hW.alike hK, hD.weaken (fun _ _ _ _ => trivial)⟩, hS.F ht⟩) hS.2.2 kd_M_limp_74
        · exact absurd ho c_15
      · refine lv_iconst (v := 1) hx hb kd_M_limp_40 (by decide) ?_
        refine lv_goto (tgt := 45) hx hb kd_M_limp_41 (by decide) ?_
        refine kx_zast (i := i + 1) (g2 := gM n ad cI cZ cL (setM τ9 (i + 1) ((τ9.1 (i + 1)).1, (τ9.1 (i + 1)).2.1, (τ9.1 (i + 1)).2.2.1, 1, (τ9.1 (i + 1)).2.2.2.2.1, (τ9.1 (i + 1)).2.2.2.2.2.1, (τ9.1 (i + 1)).2.2.2.2.2.2.1, (τ9.1 (i + 1)).2.2.2.2.2.2.2.1, (τ9.1 (i + 1)).2.2.2.2.2.2.2.2.1, (τ9.1 (i + 1)).2.2.2.2.2.2.2.2.2))) hx hb hK hP hD hS kM_4 1 rfl rfl rfl rfl (by omega) (by decide) gM_4 kd_M_limp_45 (fun H locs hP hD hS => ?_)
        generalize hτ16 : (setM τ9 (i + 1) ((τ9.1 (i + 1)).1, (τ9.1 (i + 1)).2.1, (τ9.1 (i + 1)).2.2.1, 1, (τ9.1 (i + 1)).2.2.2.2.1, (τ9.1 (i + 1)).2.2.2.2.2.1, (τ9.1 (i + 1)).2.2.2.2.2.2.1, (τ9.1 (i + 1)).2.2.2.2.2.2.2.1, (τ9.1 (i + 1)).2.2.2.2.2.2.2.2.1, (τ9.1 (i + 1)).2.2.2.2.2.2.2.2.2) : MS) = τ16 at hP hD
        refine lv_aload_n hx hb kd_M_limp_46 rfl (lv_at hl 0 rfl) ?_
        refine kx_get (ci := 3) (fs := thisM ad n τ16) (v := .ref (ad (1, 0))) hx hb hw ki_M hown hK hP kM_0 rfl rfl 2 (by decide) kw_243 rfl rfl kd_M_limp_47 ?_
        refine lv_iload_n hx hb kd_M_limp_50 rfl (lv_at hl 1 rfl) ?_
        refine lv_iconst (v := 0) hx hb kd_M_limp_51 (by decide) ?_
        refine kx_iast (i := i + 1) (g2 := gM n ad cI cZ cL (setM τ16 (i + 1) (0, (τ16.1 (i + 1)).2.1, (τ16.1 (i + 1)).2.2.1, (τ16.1 (i + 1)).2.2.2.1, (τ16.1 (i + 1)).2.2.2.2.1, (τ16.1 (i + 1)).2.2.2.2.2.1, (τ16.1 (i + 1)).2.2.2.2.2.2.1, (τ16.1 (i + 1)).2.2.2.2.2.2.2.1, (τ16.1 (i + 1)).2.2.2.2.2.2.2.2.1, (τ16.1 (i + 1)).2.2.2.2.2.2.2.2.2))) hx hb hK hP hD hS kM_1 0 rfl rfl rfl (by omega) (by decide) gM_1 kd_M_limp_52 (fun H locs hP hD hS => ?_)
        generalize hτ17 : (setM τ16 (i + 1) (0, (τ16.1 (i + 1)).2.1, (τ16.1 (i + 1)).2.2.1, (τ16.1 (i + 1)).2.2.2.1, (τ16.1 (i + 1)).2.2.2.2.1, (τ16.1 (i + 1)).2.2.2.2.2.1, (τ16.1 (i + 1)).2.2.2.2.2.2.1, (τ16.1 (i + 1)).2.2.2.2.2.2.2.1, (τ16.1 (i + 1)).2.2.2.2.2.2.2.2.1, (τ16.1 (i + 1)).2.2.2.2.2.2.2.2.2) : MS) = τ17 at hP hD
        refine lv_aload_n hx hb kd_M_limp_53 rfl (lv_at hl 0 rfl) ?_
        refine kx_get (ci := 3) (fs := thisM ad n τ17) (v := .ref (ad (2, 0))) hx hb hw ki_M hown hK hP kM_0 rfl rfl 3 (by decide) kw_244 rfl rfl kd_M_limp_54 ?_
        refine lv_iload_n hx hb kd_M_limp_57 rfl (lv_at hl 1 rfl) ?_
        refine lv_iconst (v := 0) hx hb kd_M_limp_58 (by decide) ?_
        refine kx_zast (i := i + 1) (g2 := gM n ad cI cZ cL (setM τ17 (i + 1) ((τ17.1 (i + 1)).1, 0, (τ17.1 (i + 1)).2.2.1, (τ17.1 (i + 1)).2.2.2.1, (τ17.1 (i + 1)).2.2.2.2.1, (τ17.1 (i + 1)).2.2.2.2.2.1, (τ17.1 (i + 1)).2.2.2.2.2.2.1, (τ17.1 (i + 1)).2.2.2.2.2.2.2.1, (τ17.1 (i + 1)).2.2.2.2.2.2.2.2.1, (τ17.1 (i + 1)).2.2.2.2.2.2.2.2.2))) hx hb hK hP hD hS kM_2 1 rfl rfl rfl rfl (by omega) (by decide) gM_2 kd_M_limp_59 (fun H locs hP hD hS => ?_)
        generalize hτ18 : (setM τ17 (i + 1) ((τ17.1 (i + 1)).1, 0, (τ17.1 (i + 1)).2.2.1, (τ17.1 (i + 1)).2.2.2.1, (τ17.1 (i + 1)).2.2.2.2.1, (τ17.1 (i + 1)).2.2.2.2.2.1, (τ17.1 (i + 1)).2.2.2.2.2.2.1, (τ17.1 (i + 1)).2.2.2.2.2.2.2.1, (τ17.1 (i + 1)).2.2.2.2.2.2.2.2.1, (τ17.1 (i + 1)).2.2.2.2.2.2.2.2.2) : MS) = τ18 at hP hD
        refine lv_aload_n hx hb kd_M_limp_60 rfl (lv_at hl 0 rfl) ?_
        refine kx_get (ci := 3) (fs := thisM ad n τ18) (v := .ref (ad (4, 0))) hx hb hw ki_M hown hK hP kM_0 rfl rfl 5 (by decide) kw_246 rfl rfl kd_M_limp_61 ?_
        refine lv_iload_n hx hb kd_M_limp_64 rfl (lv_at hl 1 rfl) ?_
        refine kx_zald (i := i + 1) hx hb hK hP kM_4 1 rfl rfl rfl (by omega) (by decide) kd_M_limp_65 ?_
        have ho : (τ18.1 (i + 1)).2.2.2.1 = 1 := by subst hτ16; subst hτ17; subst hτ18; exact mLi_o _ (i + 1) 1
        refine lv_if_eq (tgt := 73) hx hb kd_M_limp_66 (by decide) (fun c_19 => ?_) (fun c_19 => ?_)
        · exact absurd (ho.symm.trans c_19) (by decide)
        · refine lv_iconst (v := 1) hx hb kd_M_limp_69 (by decide) ?_
          refine lv_goto (tgt := 74) hx hb kd_M_limp_70 (by decide) ?_
          exact W.iret (v := 1) hx hb hr (fun t ht hW => ⟨⟨1, τ18, rfl, ndP_y hn.2 hi rfl (by subst hτ2; subst hτ9; subst hτ16; subst hτ17; subst hτ18; unfold mLiF; dsimp only; rw [if_pos q_7, if_pos c_11]; rfl), by rw [ht]; exact hP, va_K.moved hW.alike hK, hD.weaken (fun _ _ _ _ => trivial)⟩, hS.F ht⟩) hS.2.2 kd_M_limp_74
    · refine lv_if_eq (tgt := 21) hx hb kd_M_limp_15 (by decide) (fun c0 => absurd c0 (by decide)) (fun _ => ?_)
      refine lv_bipush (v := (-2)) hx hb kd_M_limp_18 (by decide) ?_
      exact W.iret (v := (-2)) hx hb hr (fun t ht hW => ⟨⟨(-2), τ2, rfl, ndP_y hn.2 hi rfl (by subst hτ2; unfold mLiF; dsimp only; rw [if_neg q_7]), by rw [ht]; exact hP, va_K.moved hW.alike hK, hD.weaken (fun _ _ _ _ => trivial)⟩, hS.F ht⟩) hS.2.2 kd_M_limp_20
  · refine lv_if_eq (tgt := 10) hx hb kd_M_limp_5 (by decide) (fun c0 => absurd c0 (by decide)) (fun _ => ?_)
    refine lv_iconst (v := (-1)) hx hb kd_M_limp_8 (by decide) ?_
    exact W.iret (v := (-1)) hx hb hr (fun t ht hW => ⟨⟨(-1), τ2, rfl, ndP_n hno (by rw [hτ2]), by rw [ht]; exact hP, va_K.moved hW.alike hK, hD.weaken (fun _ _ _ _ => trivial)⟩, hS.F ht⟩) hS.2.2 kd_M_limp_9
abbrev slpM (n : Nat) (σ : MS) : Prop := ∀ w, w < n → (σ.1 (w + 1)).1 = 0
set_option maxHeartbeats 4000000 in
set_option maxRecDepth 100000 in
theorem ct_M_sleeps (l : Launch) (D : va_G) {n : Nat} (hn : 1 ≤ n ∧ n ≤ 64) (ad : Nat × Nat → Nat) (cI cZ cL : ClassId) (σ : MS)  (sz : Nat) : Met l ky_M_sleeps (km ky_M_sleeps kc_M_sleeps 3 (some .boolean)) ({ frames := 0, cells := 0, slots := 0, locals := 0 }) (mPre D n ad cI cZ cL σ [.ref (ad (0, 0))] sz) (mQi D n ad cI cZ cL sz (fun r τ => ((r = 1 ∧ slpM n σ) ∨ (r = 0 ∧ ¬ slpM n σ)) ∧ mC0 σ = τ)) 0 0 (kA (kM) ad sz) := by
  refine Met.ofW (cc := kc_M_sleeps) (maxL := 3) (ret := (some .boolean)) (by decide) rfl ?_
  intro p e s m args below meth c s₁ B hml hv
  obtain ⟨rfl, hsz, hP, hK, hD0⟩ := hv
  have hx := B.exec
  have hb := B.bytes
  have hr := B.returns
  have hts := atoms_spec (ws := km ky_M_sleeps kc_M_sleeps 3 (some .boolean)) B.pre
  have hT : ∀ w ∈ kB_l, w ∈ km ky_M_sleeps kc_M_sleeps 3 (some .boolean) := fun w h => List.mem_cons_of_mem _ h
  have hw := fun w h => hts w (hT w h)
  have hown : s.vm.findClass kR_M = some m.cls := findClass_of_methodNamed B.named
  have hlocks := B.notSynchronized
  subst hsz
  have hD : va_D (kA (kM) ad s.heap.size) (kW (kM) ad (gM n ad cI cZ cL σ)) := kD_any _ hD0
  have hS : va_S (kA (kM) ad s.heap.size) s.heap s.heap [] := va_S.rf
  have hl := lv_entry ([.ref (ad (0, 0))]) (n := 3) (Nat.le_of_ble_eq_true rfl)
  rw [lg_entry_eq]
  generalize (lg_sl ([.ref (ad (0, 0))]) ++ List.replicate (3 - (lg_sl ([.ref (ad (0, 0))])).length) Slot.unset).toArray = ls at hl ⊢
  have hl : lv_has ls 3 [(0, .ref (ad (0, 0)))] := hl
  refine lv_aload_n hx hb kd_M_sleeps_0 rfl (lv_at hl 0 rfl) ?_
  refine lv_iconst (v := 0) hx hb kd_M_sleeps_1 (by decide) ?_
  refine kx_put (ci := 3) (fs := thisM ad n σ) (v := .int 0) (g2 := gM n ad cI cZ cL (σ.1, σ.2.1, σ.2.2.1, σ.2.2.2.1, σ.2.2.2.2.1, σ.2.2.2.2.2.1, 0)) hx hb hw ki_M kt_M ko_M kn_M hown hK hP hD hS kM_0 rfl rfl 0 (by decide) kw_241 rfl rfl rfl rfl (Nat.le_of_ble_eq_true rfl) (gM_S rfl) kd_M_sleeps_2 (fun H locs hP hD hS => ?_)
  generalize hτ1 : ((σ.1, σ.2.1, σ.2.2.1, σ.2.2.2.1, σ.2.2.2.2.1, σ.2.2.2.2.2.1, 0) : MS) = τ1 at hP hD
  refine lv_iconst (v := 1) hx hb kd_M_sleeps_5 (by decide) ?_
  refine lv_istore_n (lv' := [(1, .int 1), (0, .ref (ad (0, 0)))]) hx hb kd_M_sleeps_6 rfl hl (by decide) rfl (fun ls hl => ?_)
  refine lv_iconst (v := 1) hx hb kd_M_sleeps_7 (by decide) ?_
  refine lv_istore_n (lv' := [(2, .int 1), (1, .int 1), (0, .ref (ad (0, 0)))]) hx hb kd_M_sleeps_8 rfl hl (by decide) rfl (fun ls hl => ?_)
  have loop : ∀ (q j : Nat) (ρj : MS) (x1 : Int32) (H : Heap) (locs : List Loc) (ls : Array Slot), j ≤ n → n < j + q → (τ1 = ρj ∧ ((x1 = 1 ∧ ∀ w, w < j → (τ1.1 (w + 1)).1 = 0) ∨ (x1 = 0 ∧ ¬ ∀ w, w < j → (τ1.1 (w + 1)).1 = 0))) → va_P D kCl (kW (kM) ad (gM n ad cI cZ cL ρj)) H → va_D (kA (kM) ad s.heap.size) (kW (kM) ad (gM n ad cI cZ cL ρj)) → va_S (kA (kM) ad s.heap.size) s.heap H locs → lv_has ls 3 [(0, .ref (ad (0, 0))), (1, .int x1), (2, .int (nI (j + 1)))] → W p l e (headSpec (km ky_M_sleeps kc_M_sleeps 3 (some .boolean)) ({ frames := 0, cells := 0, slots := 0, locals := 0 })).room s m [.ref (ad (0, 0))].toArray below meth c H locs 0 0 (MQ below (mQi D n ad cI cZ cL s.heap.size (fun r τ => ((r = 1 ∧ slpM n σ) ∨ (r = 0 ∧ ¬ slpM n σ)) ∧ mC0 σ = τ)) [.ref (ad (0, 0))].toArray s 0 0 (kA (kM) ad s.heap.size)) (F0 m 9 ls []) := by
    intro q
    induction q with
    | zero => intro j ρj x1 H locs ls hj_j hq_j; exact absurd hq_j (by omega)
    | succ q ih_j =>
      intro j ρj x1 H locs ls hj_j hq_j hI_j hP hD hS hl
      obtain ⟨rfl, hI_j⟩ := hI_j
      refine lv_iload_n hx hb kd_M_sleeps_9 rfl (lv_at hl 2 rfl) ?_
      refine lv_aload_n hx hb kd_M_sleeps_10 rfl (lv_at hl 0 rfl) ?_
      refine kx_get (ci := 3) (fs := thisM ad n τ1) (v := .int (nI n)) hx hb hw ki_M hown hK hP kM_0 rfl rfl 1 (by decide) kw_242 rfl rfl kd_M_sleeps_11 ?_
      refine lv_icmp_gt (tgt := 42) hx hb kd_M_sleeps_14 (by decide) (fun c_2 => ?_) (fun c_2 => ?_)
      · have hje_j : j = n := lp_endg (by omega) hj_j c_2
        refine lv_iload_n hx hb kd_M_sleeps_42 rfl (lv_at hl 1 rfl) ?_
        exact W.zret (v := x1) hx hb hr (hI_j.elim (fun z => by rw [z.1]; rfl) (fun z => by rw [z.1]; rfl)) (fun t ht hW => ⟨⟨x1, τ1, rfl, ⟨by rw [hje_j, ← hτ1] at hI_j; exact hI_j, hτ1⟩, by rw [ht]; exact hP, va_K.moved hW.alike hK, hD.weaken (fun _ _ _ _ => trivial)⟩, hS.F ht⟩) hS.2.2 kd_M_sleeps_43
      · have hlt_j : j < n := lp_gog (by omega) hj_j c_2
        refine lv_iload_n hx hb kd_M_sleeps_17 rfl (lv_at hl 1 rfl) ?_
        refine lv_if_eq (tgt := 34) hx hb kd_M_sleeps_18 (by decide) (fun c_3 => ?_) (fun c_3 => ?_)
        · refine lv_iconst (v := 0) hx hb kd_M_sleeps_34 (by decide) ?_
          refine lv_istore_n (lv' := [(1, .int 0), (0, .ref (ad (0, 0))), (2, .int (nI (j + 1)))]) hx hb kd_M_sleeps_35 rfl hl (by decide) rfl (fun ls hl => ?_)
          refine lv_iinc (v := nI (j + 1 + 1)) (lv' := [(2, .int (nI (j + 1 + 1))), (1, .int 0), (0, .ref (ad (0, 0)))]) hx hb kd_M_sleeps_36 hl (k := 2) rfl (nI_1 (j + 1)) (by decide) rfl (fun ls hl => ?_)
          refine lv_goto (tgt := 9) hx hb kd_M_sleeps_39 (by decide) ?_
          exact ih_j (j + 1) τ1 0 _ _ _ hlt_j (by omega) ⟨rfl, is_n0 hI_j c_3⟩ hP hD hS (lv_sub hl [2, 1, 0] rfl)
        · refine lv_aload_n hx hb kd_M_sleeps_21 rfl (lv_at hl 0 rfl) ?_
          refine kx_get (ci := 3) (fs := thisM ad n τ1) (v := .ref (ad (1, 0))) hx hb hw ki_M hown hK hP kM_0 rfl rfl 2 (by decide) kw_243 rfl rfl kd_M_sleeps_22 ?_
          refine lv_iload_n hx hb kd_M_sleeps_25 rfl (lv_at hl 2 rfl) ?_
          refine kx_iald (i := j + 1) hx hb hK hP kM_1 0 rfl rfl rfl (by omega) (by decide) kd_M_sleeps_26 ?_
          refine lv_if_ne (tgt := 34) hx hb kd_M_sleeps_27 (by decide) (fun c_4 => ?_) (fun c_4 => ?_)
          · refine lv_iconst (v := 0) hx hb kd_M_sleeps_34 (by decide) ?_
            refine lv_istore_n (lv' := [(1, .int 0), (0, .ref (ad (0, 0))), (2, .int (nI (j + 1)))]) hx hb kd_M_sleeps_35 rfl hl (by decide) rfl (fun ls hl => ?_)
            refine lv_iinc (v := nI (j + 1 + 1)) (lv' := [(2, .int (nI (j + 1 + 1))), (1, .int 0), (0, .ref (ad (0, 0)))]) hx hb kd_M_sleeps_36 hl (k := 2) rfl (nI_1 (j + 1)) (by decide) rfl (fun ls hl => ?_)
            refine lv_goto (tgt := 9) hx hb kd_M_sleeps_39 (by decide) ?_
            exact ih_j (j + 1) τ1 0 _ _ _ hlt_j (by omega) ⟨rfl, is_n1 c_4⟩ hP hD hS (lv_sub hl [2, 1, 0] rfl)
          · refine lv_iconst (v := 1) hx hb kd_M_sleeps_30 (by decide) ?_
            refine lv_goto (tgt := 35) hx hb kd_M_sleeps_31 (by decide) ?_
            refine lv_istore_n (lv' := [(1, .int 1), (0, .ref (ad (0, 0))), (2, .int (nI (j + 1)))]) hx hb kd_M_sleeps_35 rfl hl (by decide) rfl (fun ls hl => ?_)
            refine lv_iinc (v := nI (j + 1 + 1)) (lv' := [(2, .int (nI (j + 1 + 1))), (1, .int 1), (0, .ref (ad (0, 0)))]) hx hb kd_M_sleeps_36 hl (k := 2) rfl (nI_1 (j + 1)) (by decide) rfl (fun ls hl => ?_)
            refine lv_goto (tgt := 9) hx hb kd_M_sleeps_39 (by decide) ?_
            exact ih_j (j + 1) τ1 1 _ _ _ hlt_j (by omega) ⟨rfl, is_y hI_j c_3 c_4⟩ hP hD hS (lv_sub hl [2, 1, 0] rfl)
  exact loop (n + 1) 0 τ1 1 _ _ _ (Nat.zero_le _) (by omega) ⟨rfl, Or.inl ⟨rfl, lt_0⟩⟩ hP hD hS (lv_sub hl [2, 1, 0] rfl)
