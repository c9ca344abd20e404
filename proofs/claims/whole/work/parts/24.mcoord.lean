def mCoL (lo hi : Int32) (σ : MS) : Nat → MS × Int32
  | 0 => (σ, 0)
  | k + 1 =>
    let p : MS := (mCoL lo hi σ k).1
    let s1 : MS := (p.1, upd (p.2.1) (k + 1) (if p.2.1 (k + 1) = hi then lo else p.2.1 (k + 1)), p.2.2.1, p.2.2.2.1, p.2.2.2.2)
    (s1, if s1.2.1 (k + 1) = lo then (mCoL lo hi σ k).2 + 1 else (mCoL lo hi σ k).2)
def mCoF (n : Nat) (σ : MS) (u v : Nat) : Int32 × MS :=
  let s0 : MS := mC0 σ
  if u = v then (-2, s0) else
    (let lo : Int32 := if s0.2.1 (u + 1) ≥ s0.2.1 (v + 1) then s0.2.1 (v + 1) else s0.2.1 (u + 1)
     let hi : Int32 := if s0.2.1 (u + 1) ≥ s0.2.1 (v + 1) then s0.2.1 (u + 1) else s0.2.1 (v + 1)
     ((mCoL lo hi s0 (nbs n)).2, (mCoL lo hi s0 (nbs n)).1))
set_option maxHeartbeats 4000000 in
set_option maxRecDepth 100000 in
theorem ct_M_coordinate (l : Launch) (D : va_G) {n : Nat} (hn : 1 ≤ n ∧ n ≤ 64) (ad : Nat × Nat → Nat) (cI cZ cL : ClassId) (σ : MS) (k k2 : Int32) (sz : Nat) : Met l ky_M_coordinate (km ky_M_coordinate kc_M_coordinate 8 (some .int)) ({ frames := 1, cells := 0, slots := 0, locals := 20 }) (mPre D n ad cI cZ cL σ [.ref (ad (0, 0)), .int k, .int k2] sz) (mQi D n ad cI cZ cL sz (fun r τ => ndP (nbs n) k (fun u => ndP (nbs n) k2 (fun v => (r, τ) = mCoF n σ u v) ((r, τ) = (-1, mC0 σ))) ((r, τ) = (-1, mC0 σ)))) 0 0 (kA (kM) ad sz) := by
  refine Met.ofW (cc := kc_M_coordinate) (maxL := 8) (ret := (some .int)) (by decide) rfl ?_
  intro p e s m args below meth c s₁ B hml hv
  obtain ⟨rfl, hsz, hP, hK, hD0⟩ := hv
  have hx := B.exec
  have hb := B.bytes
  have hr := B.returns
  have hts := atoms_spec (ws := km ky_M_coordinate kc_M_coordinate 8 (some .int)) B.pre
  have hT : ∀ w ∈ kB_l, w ∈ km ky_M_coordinate kc_M_coordinate 8 (some .int) := fun w h => List.mem_cons_of_mem _ h
  have hw := fun w h => hts w (hT w h)
  have hown : s.vm.findClass kR_M = some m.cls := findClass_of_methodNamed B.named
  have hlocks := B.notSynchronized
  subst hsz
  have hD : va_D (kA (kM) ad s.heap.size) (kW (kM) ad (gM n ad cI cZ cL σ)) := kD_any _ hD0
  have hS : va_S (kA (kM) ad s.heap.size) s.heap s.heap [] := va_S.rf
  have hl := lv_entry ([.ref (ad (0, 0)), .int k, .int k2]) (n := 8) (Nat.le_of_ble_eq_true rfl)
  rw [lg_entry_eq]
  generalize (lg_sl ([.ref (ad (0, 0)), .int k, .int k2]) ++ List.replicate (8 - (lg_sl ([.ref (ad (0, 0)), .int k, .int k2])).length) Slot.unset).toArray = ls at hl ⊢
  have hl : lv_has ls 8 [(0, .ref (ad (0, 0))), (1, .int k), (2, .int k2)] := hl
  refine lv_aload_n hx hb kd_M_coordinate_0 rfl (lv_at hl 0 rfl) ?_
  refine lv_iconst (v := 0) hx hb kd_M_coordinate_1 (by decide) ?_
  refine kx_put (ci := 3) (fs := thisM ad n σ) (v := .int 0) (g2 := gM n ad cI cZ cL (σ.1, σ.2.1, σ.2.2.1, σ.2.2.2.1, σ.2.2.2.2.1, σ.2.2.2.2.2.1, 0)) hx hb hw ki_M kt_M ko_M kn_M hown hK hP hD hS kM_0 rfl rfl 0 (by decide) kw_241 rfl rfl rfl rfl (Nat.le_of_ble_eq_true rfl) (gM_S rfl) kd_M_coordinate_2 (fun H locs hP hD hS => ?_)
  generalize hτ1 : ((σ.1, σ.2.1, σ.2.2.1, σ.2.2.2.1, σ.2.2.2.2.1, σ.2.2.2.2.2.1, 0) : MS) = τ1 at hP hD
  refine lv_aload_n hx hb kd_M_coordinate_5 rfl (lv_at hl 0 rfl) ?_
  refine kx_get (ci := 3) (fs := thisM ad n τ1) (v := .int (nI n)) hx hb hw ki_M hown hK hP kM_0 rfl rfl 1 (by decide) kw_242 rfl rfl kd_M_coordinate_6 ?_
  refine kx_Si (G := gM n ad cI cZ cL) (σ := τ1) (As := [.int (nI n)]) (rest := []) (n := 1) hx hb hml hown hts hT (ct_M_bus l D hn ad cI cZ cL τ1 (by omega) H.size) kw_338 kw_339 kw_5 kw_340 (by decide +kernel) ⟨rfl, rfl⟩ ⟨Nat.le_of_ble_eq_true rfl, Nat.le_of_ble_eq_true rfl⟩ hK hP hD hS rfl hl.1 (Nat.le_of_ble_eq_true rfl) kd_M_coordinate_9 rfl ⟨Nat.zero_le _, Nat.zero_le _⟩ (fun r_2 τ3 H locs hq4 hP hD hS => ?_)
  obtain ⟨rfl, rfl⟩ := hq4
  refine lv_istore_n (lv' := [(3, .int (nI ((n + 7) / 8))), (0, .ref (ad (0, 0))), (1, .int k), (2, .int k2)]) hx hb kd_M_coordinate_12 rfl hl (by decide) rfl (fun ls hl => ?_)
  refine lv_iload_n hx hb kd_M_coordinate_13 rfl (lv_at hl 2 rfl) ?_
  refine lv_iconst (v := 1) hx hb kd_M_coordinate_14 (by decide) ?_
  refine lv_icmp_lt (tgt := 33) hx hb kd_M_coordinate_15 (by decide) (fun c_5 => ?_) (fun c_5 => ?_)
  · refine lv_iconst (v := (-1)) hx hb kd_M_coordinate_33 (by decide) ?_
    exact W.iret (v := (-1)) hx hb hr (fun t ht hW => ⟨⟨(-1), τ1, rfl, ndP_n (isn_n1 (by unfold nbs; omega) c_5) (by rw [← hτ1]; rfl), by rw [ht]; exact hP, va_K.moved hW.alike hK, hD.weaken (fun _ _ _ _ => trivial)⟩, hS.F ht⟩) hS.2.2 kd_M_coordinate_34
  · refine lv_iload_n hx hb kd_M_coordinate_18 rfl (lv_at hl 2 rfl) ?_
    refine lv_iload_n hx hb kd_M_coordinate_19 rfl (lv_at hl 0 rfl) ?_
    refine lv_icmp_gt (tgt := 33) hx hb kd_M_coordinate_20 (by decide) (fun c_6 => ?_) (fun c_6 => ?_)
    · refine lv_iconst (v := (-1)) hx hb kd_M_coordinate_33 (by decide) ?_
      exact W.iret (v := (-1)) hx hb hr (fun t ht hW => ⟨⟨(-1), τ1, rfl, ndP_n (isn_n2 (by unfold nbs; omega) c_6) (by rw [← hτ1]; rfl), by rw [ht]; exact hP, va_K.moved hW.alike hK, hD.weaken (fun _ _ _ _ => trivial)⟩, hS.F ht⟩) hS.2.2 kd_M_coordinate_34
    · refine lv_iload_n hx hb kd_M_coordinate_23 rfl (lv_at hl 3 rfl) ?_
      refine lv_iconst (v := 1) hx hb kd_M_coordinate_24 (by decide) ?_
      refine lv_icmp_lt (tgt := 33) hx hb kd_M_coordinate_25 (by decide) (fun c_7 => ?_) (fun c_7 => ?_)
      · refine lv_iconst (v := (-1)) hx hb kd_M_coordinate_33 (by decide) ?_
        exact W.iret (v := (-1)) hx hb hr (fun t ht hW => ⟨⟨(-1), τ1, rfl, (by obtain ⟨u, hu, hku⟩ := isn_y (n := nbs n) (by unfold nbs; omega) c_5 c_6; exact ndP_y (by unfold nbs; omega) hu hku (ndP_n (isn_n1 (by unfold nbs; omega) c_7) (by rw [← hτ1]; rfl))), by rw [ht]; exact hP, va_K.moved hW.alike hK, hD.weaken (fun _ _ _ _ => trivial)⟩, hS.F ht⟩) hS.2.2 kd_M_coordinate_34
      · refine lv_iload_n hx hb kd_M_coordinate_28 rfl (lv_at hl 3 rfl) ?_
        refine lv_iload_n hx hb kd_M_coordinate_29 rfl (lv_at hl 0 rfl) ?_
        refine lv_icmp_le (tgt := 35) hx hb kd_M_coordinate_30 (by decide) (fun c_8 => ?_) (fun c_8 => ?_)
        · obtain ⟨u, hu, rfl⟩ := isn_y (n := nbs n) (by unfold nbs; omega) c_5 c_6
          obtain ⟨v, hv, rfl⟩ := isn_y (n := nbs n) (by unfold nbs; omega) c_7 (Int32.not_lt.mpr c_8)
          have hu9 : u + 1 < 9 := by unfold nbs at hu; omega
          have hv9 : v + 1 < 9 := by unfold nbs at hv; omega
          refine lv_iload_n hx hb kd_M_coordinate_35 rfl (lv_at hl 2 rfl) ?_
          refine lv_iload_n hx hb kd_M_coordinate_36 rfl (lv_at hl 3 rfl) ?_
          refine lv_icmp_ne (tgt := 43) hx hb kd_M_coordinate_37 (by decide) (fun c_9 => ?_) (fun c_9 => ?_)
          · refine lv_aload_n hx hb kd_M_coordinate_43 rfl (lv_at hl 1 rfl) ?_
            refine kx_get (ci := 3) (fs := thisM ad n τ1) (v := .ref (ad (11, 0))) hx hb hw ki_M hown hK hP kM_0 rfl rfl 12 (by decide) kw_253 rfl rfl kd_M_coordinate_44 ?_
            refine lv_iload_n hx hb kd_M_coordinate_47 rfl (lv_at hl 2 rfl) ?_
            refine kx_iald (i := u + 1) hx hb hK hP kM_11 0 rfl rfl rfl (by omega) (by decide) kd_M_coordinate_48 ?_
            refine lv_aload_n hx hb kd_M_coordinate_49 rfl (lv_at hl 1 rfl) ?_
            refine kx_get (ci := 3) (fs := thisM ad n τ1) (v := .ref (ad (11, 0))) hx hb hw ki_M hown hK hP kM_0 rfl rfl 12 (by decide) kw_253 rfl rfl kd_M_coordinate_50 ?_
            refine lv_iload_n hx hb kd_M_coordinate_53 rfl (lv_at hl 3 rfl) ?_
            refine kx_iald (i := v + 1) hx hb hK hP kM_11 0 rfl rfl rfl (by omega) (by decide) kd_M_coordinate_54 ?_
            refine lv_icmp_ge (tgt := 67) hx hb kd_M_coordinate_55 (by decide) (fun c_10 => ?_) (fun c_10 => ?_)
            · refine lv_aload_n hx hb kd_M_coordinate_67 rfl (lv_at hl 1 rfl) ?_
              refine kx_get (ci := 3) (fs := thisM ad n τ1) (v := .ref (ad (11, 0))) hx hb hw ki_M hown hK hP kM_0 rfl rfl 12 (by decide) kw_253 rfl rfl kd_M_coordinate_68 ?_
              refine lv_iload_n hx hb kd_M_coordinate_71 rfl (lv_at hl 3 rfl) ?_
              refine kx_iald (i := v + 1) hx hb hK hP kM_11 0 rfl rfl rfl (by omega) (by decide) kd_M_coordinate_72 ?_
              refine lv_istore (lv' := [(4, .int (τ1.2.1 (v + 1))), (3, .int (nI ((n + 7) / 8))), (0, .ref (ad (0, 0))), (1, .int (nI (u + 1))), (2, .int (nI (v + 1)))]) hx hb kd_M_coordinate_73 hl (by decide) rfl (fun ls hl => ?_)
              refine lv_aload_n hx hb kd_M_coordinate_75 rfl (lv_at hl 2 rfl) ?_
              refine kx_get (ci := 3) (fs := thisM ad n τ1) (v := .ref (ad (11, 0))) hx hb hw ki_M hown hK hP kM_0 rfl rfl 12 (by decide) kw_253 rfl rfl kd_M_coordinate_76 ?_
              refine lv_iload_n hx hb kd_M_coordinate_79 rfl (lv_at hl 3 rfl) ?_
              refine kx_iald (i := u + 1) hx hb hK hP kM_11 0 rfl rfl rfl (by omega) (by decide) kd_M_coordinate_80 ?_
              refine lv_aload_n hx hb kd_M_coordinate_81 rfl (lv_at hl 2 rfl) ?_
              refine kx_get (ci := 3) (fs := thisM ad n τ1) (v := .ref (ad (11, 0))) hx hb hw ki_M hown hK hP kM_0 rfl rfl 12 (by decide) kw_253 rfl rfl kd_M_coordinate_82 ?_
              refine lv_iload_n hx hb kd_M_coordinate_85 rfl (lv_at hl 4 rfl) ?_
              refine kx_iald (i := v + 1) hx hb hK hP kM_11 0 rfl rfl rfl (by omega) (by decide) kd_M_coordinate_86 ?_
              refine lv_icmp_ge (tgt := 99) hx hb kd_M_coordinate_87 (by decide) (fun _ => ?_) (fun c0 => absurd c_10 c0)
              refine lv_aload_n hx hb kd_M_coordinate_99 rfl (lv_at hl 2 rfl) ?_
              refine kx_get (ci := 3) (fs := thisM ad n τ1) (v := .ref (ad (11, 0))) hx hb hw ki_M hown hK hP kM_0 rfl rfl 12 (by decide) kw_253 rfl rfl kd_M_coordinate_100 ?_
              refine lv_iload_n hx hb kd_M_coordinate_103 rfl (lv_at hl 3 rfl) ?_
              refine kx_iald (i := u + 1) hx hb hK hP kM_11 0 rfl rfl rfl (by omega) (by decide) kd_M_coordinate_104 ?_
              refine lv_istore (lv' := [(5, .int (τ1.2.1 (u + 1))), (4, .int (τ1.2.1 (v + 1))), (3, .int (nI ((n + 7) / 8))), (0, .ref (ad (0, 0))), (1, .int (nI (u + 1))), (2, .int (nI (v + 1)))]) hx hb kd_M_coordinate_105 hl (by decide) rfl (fun ls hl => ?_)
              refine lv_iconst (v := 0) hx hb kd_M_coordinate_107 (by decide) ?_
              refine lv_istore (lv' := [(6, .int 0), (5, .int (τ1.2.1 (u + 1))), (4, .int (τ1.2.1 (v + 1))), (3, .int (nI ((n + 7) / 8))), (0, .ref (ad (0, 0))), (1, .int (nI (u + 1))), (2, .int (nI (v + 1)))]) hx hb kd_M_coordinate_108 hl (by decide) rfl (fun ls hl => ?_)
              refine lv_iconst (v := 1) hx hb kd_M_coordinate_110 (by decide) ?_
              refine lv_istore (lv' := [(7, .int 1), (6, .int 0), (5, .int (τ1.2.1 (u + 1))), (4, .int (τ1.2.1 (v + 1))), (3, .int (nI ((n + 7) / 8))), (0, .ref (ad (0, 0))), (1, .int (nI (u + 1))), (2, .int (nI (v + 1)))]) hx hb kd_M_coordinate_111 hl (by decide) rfl (fun ls hl => ?_)
              have loop : ∀ (q j : Nat) (ρj : MS) (x6 : Int32) (H : Heap) (locs : List Loc) (ls : Array Slot), j ≤ (n + 7) / 8 → (n + 7) / 8 < j + q → ((ρj, x6) = mCoL (τ1.2.1 (v + 1)) (τ1.2.1 (u + 1)) τ1 j) → va_P D kCl (kW (kM) ad (gM n ad cI cZ cL ρj)) H → va_D (kA (kM) ad s.heap.size) (kW (kM) ad (gM n ad cI cZ cL ρj)) → va_S (kA (kM) ad s.heap.size) s.heap H locs → lv_has ls 8 [(0, .ref (ad (0, 0))), (3, .int (nI ((n + 7) / 8))), (4, .int (τ1.2.1 (v + 1))), (5, .int (τ1.2.1 (u + 1))), (6, .int x6), (7, .int (nI (j + 1)))] → W p l e (headSpec (km ky_M_coordinate kc_M_coordinate 8 (some .int)) ({ frames := 1, cells := 0, slots := 0, locals := 20 })).room s m [.ref (ad (0, 0)), .int (nI (u + 1)), .int (nI (v + 1))].toArray below meth c H locs 0 0 (MQ below (mQi D n ad cI cZ cL s.heap.size (fun r τ => ndP (nbs n) (nI (u + 1)) (fun u => ndP (nbs n) (nI (v + 1)) (fun v => (r, τ) = mCoF n σ u v) ((r, τ) = (-1, mC0 σ))) ((r, τ) = (-1, mC0 σ)))) [.ref (ad (0, 0)), .int (nI (u + 1)), .int (nI (v + 1))].toArray s 0 0 (kA (kM) ad s.heap.size)) (F0 m 113 ls []) := by
                intro q
                induction q with
                | zero => intro j ρj x6 H locs ls hj_j hq_j; exact absurd hq_j (by omega)
                | succ q ih_j =>
                  intro j ρj x6 H locs ls hj_j hq_j hI_j hP hD hS hl
                  refine lv_iload hx hb kd_M_coordinate_113 (lv_at hl 5 rfl) ?_
                  refine lv_iload_n hx hb kd_M_coordinate_115 rfl (lv_at hl 1 rfl) ?_
                  refine lv_icmp_gt (tgt := 179) hx hb kd_M_coordinate_116 (by decide) (fun c_11 => ?_) (fun c_11 => ?_)
                  · have hje_j : j = (n + 7) / 8 := lp_endg (by omega) hj_j c_11
                    refine lv_iload hx hb kd_M_coordinate_179 (lv_at hl 4 rfl) ?_
                    exact W.iret (v := x6) hx hb hr (fun t ht hW => ⟨⟨x6, ρj, rfl, ndP_y (by unfold nbs; omega) hu rfl (ndP_y (by unfold nbs; omega) hv rfl (by rw [hje_j] at hI_j; have hI : (ρj, x6) = mCoL (τ1.2.1 (v + 1)) (τ1.2.1 (u + 1)) τ1 (nbs n) := hI_j; unfold mCoF; rw [if_neg (fun z => c_9 (by rw [z])), show mC0 σ = τ1 from hτ1]; dsimp only; rw [if_pos c_10, if_pos c_10, ← hI])), by rw [ht]; exact hP, va_K.moved hW.alike hK, hD.weaken (fun _ _ _ _ => trivial)⟩, hS.F ht⟩) hS.2.2 kd_M_coordinate_181
                  · have hlt_j : j < (n + 7) / 8 := lp_gog (by omega) hj_j c_11
                    refine lv_aload_n hx hb kd_M_coordinate_119 rfl (lv_at hl 0 rfl) ?_
                    refine kx_get (ci := 3) (fs := thisM ad n ρj) (v := .ref (ad (11, 0))) hx hb hw ki_M hown hK hP kM_0 rfl rfl 12 (by decide) kw_253 rfl rfl kd_M_coordinate_120 ?_
                    refine lv_iload hx hb kd_M_coordinate_123 (lv_at hl 5 rfl) ?_
                    refine lv_aload_n hx hb kd_M_coordinate_125 rfl (lv_at hl 0 rfl) ?_
                    refine kx_get (ci := 3) (fs := thisM ad n ρj) (v := .ref (ad (11, 0))) hx hb hw ki_M hown hK hP kM_0 rfl rfl 12 (by decide) kw_253 rfl rfl kd_M_coordinate_126 ?_
                    refine lv_iload hx hb kd_M_coordinate_129 (lv_at hl 5 rfl) ?_
                    refine kx_iald (i := j + 1) hx hb hK hP kM_11 0 rfl rfl rfl (by omega) (by decide) kd_M_coordinate_131 ?_
                    refine lv_iload hx hb kd_M_coordinate_132 (lv_at hl 3 rfl) ?_
                    refine lv_icmp_ne (tgt := 142) hx hb kd_M_coordinate_134 (by decide) (fun c_12 => ?_) (fun c_12 => ?_)
                    · refine lv_aload_n hx hb kd_M_coordinate_142 rfl (lv_at hl 0 rfl) ?_
                      refine kx_get (ci := 3) (fs := thisM ad n ρj) (v := .ref (ad (11, 0))) hx hb hw ki_M hown hK hP kM_0 rfl rfl 12 (by decide) kw_253 rfl rfl kd_M_coordinate_143 ?_
                      refine lv_iload hx hb kd_M_coordinate_146 (lv_at hl 5 rfl) ?_
                      refine kx_iald (i := j + 1) hx hb hK hP kM_11 0 rfl rfl rfl (by omega) (by decide) kd_M_coordinate_148 ?_
                      refine kx_iast (i := j + 1) (g2 := gM n ad cI cZ cL ((ρj.1, upd (ρj.2.1) (j + 1) (ρj.2.1 (j + 1)), ρj.2.2.1, ρj.2.2.2.1, ρj.2.2.2.2))) hx hb hK hP hD hS kM_11 0 rfl rfl rfl (by omega) (by decide) gM_11 kd_M_coordinate_149 (fun H locs hP hD hS => ?_)
                      generalize hτ13 : ((ρj.1, upd (ρj.2.1) (j + 1) (ρj.2.1 (j + 1)), ρj.2.2.1, ρj.2.2.2.1, ρj.2.2.2.2) : MS) = τ13 at hP hD
                      refine lv_aload_n hx hb kd_M_coordinate_150 rfl (lv_at hl 0 rfl) ?_
                      refine kx_get (ci := 3) (fs := thisM ad n τ13) (v := .ref (ad (11, 0))) hx hb hw ki_M hown hK hP kM_0 rfl rfl 12 (by decide) kw_253 rfl rfl kd_M_coordinate_151 ?_
                      refine lv_iload hx hb kd_M_coordinate_154 (lv_at hl 5 rfl) ?_
                      refine kx_iald (i := j + 1) hx hb hK hP kM_11 0 rfl rfl rfl (by omega) (by decide) kd_M_coordinate_156 ?_
                      refine lv_iload hx hb kd_M_coordinate_157 (lv_at hl 2 rfl) ?_
                      refine lv_icmp_ne (tgt := 169) hx hb kd_M_coordinate_159 (by decide) (fun c_14 => ?_) (fun c_14 => ?_)
                      · refine lv_iload hx hb kd_M_coordinate_169 (lv_at hl 4 rfl) ?_
                        refine lv_istore (lv' := [(6, .int x6), (0, .ref (ad (0, 0))), (3, .int (nI ((n + 7) / 8))), (4, .int (τ1.2.1 (v + 1))), (5, .int (τ1.2.1 (u + 1))), (7, .int (nI (j + 1)))]) hx hb kd_M_coordinate_171 hl (by decide) rfl (fun ls hl => ?_)
                        refine lv_iinc (v := nI (j + 1 + 1)) (lv' := [(7, .int (nI (j + 1 + 1))), (6, .int x6), (0, .ref (ad (0, 0))), (3, .int (nI ((n + 7) / 8))), (4, .int (τ1.2.1 (v + 1))), (5, .int (τ1.2.1 (u + 1)))]) hx hb kd_M_coordinate_173 hl (k := 5) rfl (nI_1 (j + 1)) (by decide) rfl (fun ls hl => ?_)
                        refine lv_goto (tgt := 113) hx hb kd_M_coordinate_176 (by decide) ?_
                        exact ih_j (j + 1) τ13 x6 _ _ _ hlt_j (by omega) (by rw [mCoL, ← hI_j]; dsimp only; subst hτ13; rw [if_neg c_12, if_neg c_14]) hP hD hS (lv_sub hl [2, 3, 4, 5, 1, 0] rfl)
                      · refine lv_iload hx hb kd_M_coordinate_162 (lv_at hl 4 rfl) ?_
                        refine lv_iconst (v := 1) hx hb kd_M_coordinate_164 (by decide) ?_
                        refine lv_iadd hx hb kd_M_coordinate_165 ?_
                        refine lv_goto (tgt := 171) hx hb kd_M_coordinate_166 (by decide) ?_
                        refine lv_istore (lv' := [(6, .int (x6 + 1)), (0, .ref (ad (0, 0))), (3, .int (nI ((n + 7) / 8))), (4, .int (τ1.2.1 (v + 1))), (5, .int (τ1.2.1 (u + 1))), (7, .int (nI (j + 1)))]) hx hb kd_M_coordinate_171 hl (by decide) rfl (fun ls hl => ?_)
                        refine lv_iinc (v := nI (j + 1 + 1)) (lv' := [(7, .int (nI (j + 1 + 1))), (6, .int (x6 + 1)), (0, .ref (ad (0, 0))), (3, .int (nI ((n + 7) / 8))), (4, .int (τ1.2.1 (v + 1))), (5, .int (τ1.2.1 (u + 1)))]) hx hb kd_M_coordinate_173 hl (k := 5) rfl (nI_1 (j + 1)) (by decide) rfl (fun ls hl => ?_)
                        refine lv_goto (tgt := 113) hx hb kd_M_coordinate_176 (by decide) ?_
                        exact ih_j (j + 1) τ13 (x6 + 1) _ _ _ hlt_j (by omega) (by rw [mCoL, ← hI_j]; dsimp only; subst hτ13; rw [if_neg c_12, if_pos c_14]) hP hD hS (lv_sub hl [2, 3, 4, 5, 1, 0] rfl)
                    · refine lv_iload hx hb kd_M_coordinate_137 (lv_at hl 2 rfl) ?_
                      refine lv_goto (tgt := 149) hx hb kd_M_coordinate_139 (by decide) ?_
                      refine kx_iast (i := j + 1) (g2 := gM n ad cI cZ cL ((ρj.1, upd (ρj.2.1) (j + 1) (τ1.2.1 (v + 1)), ρj.2.2.1, ρj.2.2.2.1, ρj.2.2.2.2))) hx hb hK hP hD hS kM_11 0 rfl rfl rfl (by omega) (by decide) gM_11 kd_M_coordinate_149 (fun H locs hP hD hS => ?_)
                      generalize hτ15 : ((ρj.1, upd (ρj.2.1) (j + 1) (τ1.2.1 (v + 1)), ρj.2.2.1, ρj.2.2.2.1, ρj.2.2.2.2) : MS) = τ15 at hP hD
                      refine lv_aload_n hx hb kd_M_coordinate_150 rfl (lv_at hl 0 rfl) ?_
                      refine kx_get (ci := 3) (fs := thisM ad n τ15) (v := .ref (ad (11, 0))) hx hb hw ki_M hown hK hP kM_0 rfl rfl 12 (by decide) kw_253 rfl rfl kd_M_coordinate_151 ?_
                      refine lv_iload hx hb kd_M_coordinate_154 (lv_at hl 5 rfl) ?_
                      refine kx_iald (i := j + 1) hx hb hK hP kM_11 0 rfl rfl rfl (by omega) (by decide) kd_M_coordinate_156 ?_
                      refine lv_iload hx hb kd_M_coordinate_157 (lv_at hl 2 rfl) ?_
                      refine lv_icmp_ne (tgt := 169) hx hb kd_M_coordinate_159 (by decide) (fun c_16 => ?_) (fun c_16 => ?_)
                      · refine lv_iload hx hb kd_M_coordinate_169 (lv_at hl 4 rfl) ?_
                        refine lv_istore (lv' := [(6, .int x6), (0, .ref (ad (0, 0))), (3, .int (nI ((n + 7) / 8))), (4, .int (τ1.2.1 (v + 1))), (5, .int (τ1.2.1 (u + 1))), (7, .int (nI (j + 1)))]) hx hb kd_M_coordinate_171 hl (by decide) rfl (fun ls hl => ?_)
                        refine lv_iinc (v := nI (j + 1 + 1)) (lv' := [(7, .int (nI (j + 1 + 1))), (6, .int x6), (0, .ref (ad (0, 0))), (3, .int (nI ((n + 7) / 8))), (4, .int (τ1.2.1 (v + 1))), (5, .int (τ1.2.1 (u + 1)))]) hx hb kd_M_coordinate_173 hl (k := 5) rfl (nI_1 (j + 1)) (by decide) rfl (fun ls hl => ?_)
                        refine lv_goto (tgt := 113) hx hb kd_M_coordinate_176 (by decide) ?_
                        exact ih_j (j + 1) τ15 x6 _ _ _ hlt_j (by omega) (by rw [mCoL, ← hI_j]; dsimp only; subst hτ15; rw [if_pos c_12, if_neg c_16]) hP hD hS (lv_sub hl [2, 3, 4, 5, 1, 0] rfl)
                      · refine lv_iload hx hb kd_M_coordinate_162 (lv_at hl 4 rfl) ?_
                        refine lv_iconst (v := 1) hx hb kd_M_coordinate_164 (by decide) ?_
                        refine lv_iadd hx hb kd_M_coordinate_165 ?_
                        refine lv_goto (tgt := 171) hx hb kd_M_coordinate_166 (by decide) ?_
                        refine lv_istore (lv' := [(6, .int (x6 + 1)), (0, .ref (ad (0, 0))), (3, .int (nI ((n + 7) / 8))), (4, .int (τ1.2.1 (v + 1))), (5, .int (τ1.2.1 (u + 1))), (7, .int (nI (j + 1)))]) hx hb kd_M_coordinate_171 hl (by decide) rfl (fun ls hl => ?_)
                        refine lv_iinc (v := nI (j + 1 + 1)) (lv' := [(7, .int (nI (j + 1 + 1))), (6, .int (x6 + 1)), (0, .ref (ad (0, 0))), (3, .int (nI ((n + 7) / 8))), (4, .int (τ1.2.1 (v + 1))), (5, .int (τ1.2.1 (u + 1)))]) hx hb kd_M_coordinate_173 hl (k := 5) rfl (nI_1 (j + 1)) (by decide) rfl (fun ls hl => ?_)
                        refine lv_goto (tgt := 113) hx hb kd_M_coordinate_176 (by decide) ?_
                        exact ih_j (j + 1) τ15 (x6 + 1) _ _ _ hlt_j (by omega) (by rw [mCoL, ← hI_j]; dsimp only; subst hτ15; rw [if_pos c_12, if_pos c_16]) hP hD hS (lv_sub hl [2, 3, 4, 5, 1, 0] rfl)
              exact loop ((n + 7) / 8 + 1) 0 τ1 0 _ _ _ (Nat.zero_le _) (by omega) rfl hP hD hS (lv_sub hl [5, 4, 3, 2, 1, 0] rfl)
            · refine lv_aload_n hx hb kd_M_coordinate_58 rfl (lv_at hl 1 rfl) ?_
              refine kx_get (ci := 3) (fs := thisM ad n τ1) (v := .ref (ad (11, 0))) hx hb hw ki_M hown hK hP kM_0 rfl rfl 12 (by decide) kw_253 rfl rfl kd_M_coordinate_59 ?_
              refine lv_iload_n hx hb kd_M_coordinate_62 rfl (lv_at hl 2 rfl) ?_
              refine kx_iald (i := u + 1) hx hb hK hP kM_11 0 rfl rfl rfl (by omega) (by decide) kd_M_coordinate_63 ?_
              refine lv_goto (tgt := 73) hx hb kd_M_coordinate_64 (by decide) ?_
              refine lv_istore (lv' := [(4, .int (τ1.2.1 (u + 1))), (3, .int (nI ((n + 7) / 8))), (0, .ref (ad (0, 0))), (1, .int (nI (u + 1))), (2, .int (nI (v + 1)))]) hx hb kd_M_coordinate_73 hl (by decide) rfl (fun ls hl => ?_)
              refine lv_aload_n hx hb kd_M_coordinate_75 rfl (lv_at hl 2 rfl) ?_
              refine kx_get (ci := 3) (fs := thisM ad n τ1) (v := .ref (ad (11, 0))) hx hb hw ki_M hown hK hP kM_0 rfl rfl 12 (by decide) kw_253 rfl rfl kd_M_coordinate_76 ?_
              refine lv_iload_n hx hb kd_M_coordinate_79 rfl (lv_at hl 3 rfl) ?_
              refine kx_iald (i := u + 1) hx hb hK hP kM_11 0 rfl rfl rfl (by omega) (by decide) kd_M_coordinate_80 ?_
              refine lv_aload_n hx hb kd_M_coordinate_81 rfl (lv_at hl 2 rfl) ?_
              refine kx_get (ci := 3) (fs := thisM ad n τ1) (v := .ref (ad (11, 0))) hx hb hw ki_M hown hK hP kM_0 rfl rfl 12 (by decide) kw_253 rfl rfl kd_M_coordinate_82 ?_
              refine lv_iload_n hx hb kd_M_coordinate_85 rfl (lv_at hl 4 rfl) ?_
              refine kx_iald (i := v + 1) hx hb hK hP kM_11 0 rfl rfl rfl (by omega) (by decide) kd_M_coordinate_86 ?_
              refine lv_icmp_ge (tgt := 99) hx hb kd_M_coordinate_87 (by decide) (fun c0 => absurd c0 c_10) (fun _ => ?_)
              refine lv_aload_n hx hb kd_M_coordinate_90 rfl (lv_at hl 2 rfl) ?_
              refine kx_get (ci := 3) (fs := thisM ad n τ1) (v := .ref (ad (11, 0))) hx hb hw ki_M hown hK hP kM_0 rfl rfl 12 (by decide) kw_253 rfl rfl kd_M_coordinate_91 ?_
              refine lv_iload_n hx hb kd_M_coordinate_94 rfl (lv_at hl 4 rfl) ?_
              refine kx_iald (i := v + 1) hx hb hK hP kM_11 0 rfl rfl rfl (by omega) (by decide) kd_M_coordinate_95 ?_
              refine lv_goto (tgt := 105) hx hb kd_M_coordinate_96 (by decide) ?_
              refine lv_istore (lv' := [(5, .int (τ1.2.1 (v + 1))), (4, .int (τ1.2.1 (u + 1))), (3, .int (nI ((n + 7) / 8))), (0, .ref (ad (0, 0))), (1, .int (nI (u + 1))), (2, .int (nI (v + 1)))]) hx hb kd_M_coordinate_105 hl (by decide) rfl (fun ls hl => ?_)
              refine lv_iconst (v := 0) hx hb kd_M_coordinate_107 (by decide) ?_
              refine lv_istore (lv' := [(6, .int 0), (5, .int (τ1.2.1 (v + 1))), (4, .int (τ1.2.1 (u + 1))), (3, .int (nI ((n + 7) / 8))), (0, .ref (ad (0, 0))), (1, .int (nI (u + 1))), (2, .int (nI (v + 1)))]) hx hb kd_M_coordinate_108 hl (by decide) rfl (fun ls hl => ?_)
              refine lv_iconst (v := 1) hx hb kd_M_coordinate_110 (by decide) ?_
              refine lv_istore (lv' := [(7, .int 1), (6, .int 0), (5, .int (τ1.2.1 (v + 1))), (4, .int (τ1.2.1 (u + 1))), (3, .int (nI ((n + 7) / 8))), (0, .ref (ad (0, 0))), (1, .int (nI (u + 1))), (2, .int (nI (v + 1)))]) hx hb kd_M_coordinate_111 hl (by decide) rfl (fun ls hl => ?_)
              have loop : ∀ (q j : Nat) (ρj : MS) (x6 : Int32) (H : Heap) (locs : List Loc) (ls : Array Slot), j ≤ (n + 7) / 8 → (n + 7) / 8 < j + q → ((ρj, x6) = mCoL (τ1.2.1 (u + 1)) (τ1.2.1 (v + 1)) τ1 j) → va_P D kCl (kW (kM) ad (gM n ad cI cZ cL ρj)) H → va_D (kA (kM) ad s.heap.size) (kW (kM) ad (gM n ad cI cZ cL ρj)) → va_S (kA (kM) ad s.heap.size) s.heap H locs → lv_has ls 8 [(0, .ref (ad (0, 0))), (3, .int (nI ((n + 7) / 8))), (4, .int (τ1.2.1 (u + 1))), (5, .int (τ1.2.1 (v + 1))), (6, .int x6), (7, .int (nI (j + 1)))] → W p l e (headSpec (km ky_M_coordinate kc_M_coordinate 8 (some .int)) ({ frames := 1, cells := 0, slots := 0, locals := 20 })).room s m [.ref (ad (0, 0)), .int (nI (u + 1)), .int (nI (v + 1))].toArray below meth c H locs 0 0 (MQ below (mQi D n ad cI cZ cL s.heap.size (fun r τ => ndP (nbs n) (nI (u + 1)) (fun u => ndP (nbs n) (nI (v + 1)) (fun v => (r, τ) = mCoF n σ u v) ((r, τ) = (-1, mC0 σ))) ((r, τ) = (-1, mC0 σ)))) [.ref (ad (0, 0)), .int (nI (u + 1)), .int (nI (v + 1))].toArray s 0 0 (kA (kM) ad s.heap.size)) (F0 m 113 ls []) := by
                intro q
                induction q with
                | zero => intro j ρj x6 H locs ls hj_j hq_j; exact absurd hq_j (by omega)
                | succ q ih_j =>
                  intro j ρj x6 H locs ls hj_j hq_j hI_j hP hD hS hl
                  refine lv_iload hx hb kd_M_coordinate_113 (lv_at hl 5 rfl) ?_
                  refine lv_iload_n hx hb kd_M_coordinate_115 rfl (lv_at hl 1 rfl) ?_
                  refine lv_icmp_gt (tgt := 179) hx hb kd_M_coordinate_116 (by decide) (fun c_17 => ?_) (fun c_17 => ?_)
                  · have hje_j : j = (n + 7) / 8 := lp_endg (by omega) hj_j c_17
                    refine lv_iload hx hb kd_M_coordinate_179 (lv_at hl 4 rfl) ?_
                    exact W.iret (v := x6) hx hb hr (fun t ht hW => ⟨⟨x6, ρj, rfl, ndP_y (by unfold nbs; omega) hu rfl (ndP_y (by unfold nbs; omega) hv rfl (by rw [hje_j] at hI_j; have hI : (ρj, x6) = mCoL (τ1.2.1 (u + 1)) (τ1.2.1 (v + 1)) τ1 (nbs n) := hI_j; unfold mCoF; rw [if_neg (fun z => c_9 (by rw [z])), show mC0 σ = τ1 from hτ1]; dsimp only; rw [if_neg c_10, if_neg c_10, ← hI])), by rw [ht]; exact hP, va_K.moved hW.alike hK, hD.weaken (fun _ _ _ _ => trivial)⟩, hS.F ht⟩) hS.2.2 kd_M_coordinate_181
                  · have hlt_j : j < (n + 7) / 8 := lp_gog (by omega) hj_j c_17
                    refine lv_aload_n hx hb kd_M_coordinate_119 rfl (lv_at hl 0 rfl) ?_
                    refine kx_get (ci := 3) (fs := thisM ad n ρj) (v := .ref (ad (11, 0))) hx hb hw ki_M hown hK hP kM_0 rfl rfl 12 (by decide) kw_253 rfl rfl kd_M_coordinate_120 ?_
                    refine lv_iload hx hb kd_M_coordinate_123 (lv_at hl 5 rfl) ?_
                    refine lv_aload_n hx hb kd_M_coordinate_125 rfl (lv_at hl 0 rfl) ?_
                    refine kx_get (ci := 3) (fs := thisM ad n ρj) (v := .ref (ad (11, 0))) hx hb hw ki_M hown hK hP kM_0 rfl rfl 12 (by decide) kw_253 rfl rfl kd_M_coordinate_126 ?_
                    refine lv_iload hx hb kd_M_coordinate_129 (lv_at hl 5 rfl) ?_
                    refine kx_iald (i := j + 1) hx hb hK hP kM_11 0 rfl rfl rfl (by omega) (by decide) kd_M_coordinate_131 ?_
                    refine lv_iload hx hb kd_M_coordinate_132 (lv_at hl 3 rfl) ?_
                    refine lv_icmp_ne (tgt := 142) hx hb kd_M_coordinate_134 (by decide) (fun c_18 => ?_) (fun c_18 => ?_)
                    · refine lv_aload_n hx hb kd_M_coordinate_142 rfl (lv_at hl 0 rfl) ?_
                      refine kx_get (ci := 3) (fs := thisM ad n ρj) (v := .ref (ad (11, 0))) hx hb hw ki_M hown hK hP kM_0 rfl rfl 12 (by decide) kw_253 rfl rfl kd_M_coordinate_143 ?_
                      refine lv_iload hx hb kd_M_coordinate_146 (lv_at hl 5 rfl) ?_
                      refine kx_iald (i := j + 1) hx hb hK hP kM_11 0 rfl rfl rfl (by omega) (by decide) kd_M_coordinate_148 ?_
                      refine kx_iast (i := j + 1) (g2 := gM n ad cI cZ cL ((ρj.1, upd (ρj.2.1) (j + 1) (ρj.2.1 (j + 1)), ρj.2.2.1, ρj.2.2.2.1, ρj.2.2.2.2))) hx hb hK hP hD hS kM_11 0 rfl rfl rfl (by omega) (by decide) gM_11 kd_M_coordinate_149 (fun H locs hP hD hS => ?_)
                      generalize hτ19 : ((ρj.1, upd (ρj.2.1) (j + 1) (ρj.2.1 (j + 1)), ρj.2.2.1, ρj.2.2.2.1, ρj.2.2.2.2) : MS) = τ19 at hP hD
                      refine lv_aload_n hx hb kd_M_coordinate_150 rfl (lv_at hl 0 rfl) ?_
                      refine kx_get (ci := 3) (fs := thisM ad n τ19) (v := .ref (ad (11, 0))) hx hb hw ki_M hown hK hP kM_0 rfl rfl 12 (by decide) kw_253 rfl rfl kd_M_coordinate_151 ?_
                      refine lv_iload hx hb kd_M_coordinate_154 (lv_at hl 5 rfl) ?_
                      refine kx_iald (i := j + 1) hx hb hK hP kM_11 0 rfl rfl rfl (by omega) (by decide) kd_M_coordinate_156 ?_
                      refine lv_iload hx hb kd_M_coordinate_157 (lv_at hl 2 rfl) ?_
                      refine lv_icmp_ne (tgt := 169) hx hb kd_M_coordinate_159 (by decide) (fun c_20 => ?_) (fun c_20 => ?_)
                      · refine lv_iload hx hb kd_M_coordinate_169 (lv_at hl 4 rfl) ?_
                        refine lv_istore (lv' := [(6, .int x6), (0, .ref (ad (0, 0))), (3, .int (nI ((n + 7) / 8))), (4, .int (τ1.2.1 (u + 1))), (5, .int (τ1.2.1 (v + 1))), (7, .int (nI (j + 1)))]) hx hb kd_M_coordinate_171 hl (by decide) rfl (fun ls hl => ?_)
                        refine lv_iinc (v := nI (j + 1 + 1)) (lv' := [(7, .int (nI (j + 1 + 1))), (6, .int x6), (0, .ref (ad (0, 0))), (3, .int (nI ((n + 7) / 8))), (4, .int (τ1.2.1 (u + 1))), (5, .int (τ1.2.1 (v + 1)))]) hx hb kd_M_coordinate_173 hl (k := 5) rfl (nI_1 (j + 1)) (by decide) rfl (fun ls hl => ?_)
                        refine lv_goto (tgt := 113) hx hb kd_M_coordinate_176 (by decide) ?_
                        exact ih_j (j + 1) τ19 x6 _ _ _ hlt_j (by omega) (by rw [mCoL, ← hI_j]; dsimp only; subst hτ19; rw [if_neg c_18, if_neg c_20]) hP hD hS (lv_sub hl [2, 3, 4, 5, 1, 0] rfl)
                      · refine lv_iload hx hb kd_M_coordinate_162 (lv_at hl 4 rfl) ?_
                        refine lv_iconst (v := 1) hx hb kd_M_coordinate_164 (by decide) ?_
                        refine lv_iadd hx hb kd_M_coordinate_165 ?_
                        refine lv_goto (tgt := 171) hx hb kd_M_coordinate_166 (by decide) ?_
                        refine lv_istore (lv' := [(6, .int (x6 + 1)), (0, .ref (ad (0, 0))), (3, .int (nI ((n + 7) / 8))), (4, .int (τ1.2.1 (u + 1))), (5, .int (τ1.2.1 (v + 1))), (7, .int (nI (j + 1)))]) hx hb kd_M_coordinate_171 hl (by decide) rfl (fun ls hl => ?_)
                        refine lv_iinc (v := nI (j + 1 + 1)) (lv' := [(7, .int (nI (j + 1 + 1))), (6, .int (x6 + 1)), (0, .ref (ad (0, 0))), (3, .int (nI ((n + 7) / 8))), (4, .int (τ1.2.1 (u + 1))), (5, .int (τ1.2.1 (v + 1)))]) hx hb kd_M_coordinate_173 hl (k := 5) rfl (nI_1 (j + 1)) (by decide) rfl (fun ls hl => ?_)
                        refine lv_goto (tgt := 113) hx hb kd_M_coordinate_176 (by decide) ?_
                        exact ih_j (j + 1) τ19 (x6 + 1) _ _ _ hlt_j (by omega) (by rw [mCoL, ← hI_j]; dsimp only; subst hτ19; rw [if_neg c_18, if_pos c_20]) hP hD hS (lv_sub hl [2, 3, 4, 5, 1, 0] rfl)
                    · refine lv_iload hx hb kd_M_coordinate_137 (lv_at hl 2 rfl) ?_
                      refine lv_goto (tgt := 149) hx hb kd_M_coordinate_139 (by decide) ?_
                      refine kx_iast (i := j + 1) (g2 := gM n ad cI cZ cL ((ρj.1, upd (ρj.2.1) (j + 1) (τ1.2.1 (u + 1)), ρj.2.2.1, ρj.2.2.2.1, ρj.2.2.2.2))) hx hb hK hP hD hS kM_11 0 rfl rfl rfl (by omega) (by decide) gM_11 kd_M_coordinate_149 (fun H locs hP hD hS => ?_)
                      generalize hτ21 : ((ρj.1, upd (ρj.2.1) (j + 1) (τ1.2.1 (u + 1)), ρj.2.2.1, ρj.2.2.2.1, ρj.2.2.2.2) : MS) = τ21 at hP hD
                      refine lv_aload_n hx hb kd_M_coordinate_150 rfl (lv_at hl 0 rfl) ?_
                      refine kx_get (ci := 3) (fs := thisM ad n τ21) (v := .ref (ad (11, 0))) hx hb hw ki_M hown hK hP kM_0 rfl rfl 12 (by decide) kw_253 rfl rfl kd_M_coordinate_151 ?_
                      refine lv_iload hx hb kd_M_coordinate_154 (lv_at hl 5 rfl) ?_
                      refine kx_iald (i := j + 1) hx hb hK hP kM_11 0 rfl rfl rfl (by omega) (by decide) kd_M_coordinate_156 ?_
                      refine lv_iload hx hb kd_M_coordinate_157 (lv_at hl 2 rfl) ?_
                      refine lv_icmp_ne (tgt := 169) hx hb kd_M_coordinate_159 (by decide) (fun c_22 => ?_) (fun c_22 => ?_)
                      · refine lv_iload hx hb kd_M_coordinate_169 (lv_at hl 4 rfl) ?_
                        refine lv_istore (lv' := [(6, .int x6), (0, .ref (ad (0, 0))), (3, .int (nI ((n + 7) / 8))), (4, .int (τ1.2.1 (u + 1))), (5, .int (τ1.2.1 (v + 1))), (7, .int (nI (j + 1)))]) hx hb kd_M_coordinate_171 hl (by decide) rfl (fun ls hl => ?_)
                        refine lv_iinc (v := nI (j + 1 + 1)) (lv' := [(7, .int (nI (j + 1 + 1))), (6, .int x6), (0, .ref (ad (0, 0))), (3, .int (nI ((n + 7) / 8))), (4, .int (τ1.2.1 (u + 1))), (5, .int (τ1.2.1 (v + 1)))]) hx hb kd_M_coordinate_173 hl (k := 5) rfl (nI_1 (j + 1)) (by decide) rfl (fun ls hl => ?_)
                        refine lv_goto (tgt := 113) hx hb kd_M_coordinate_176 (by decide) ?_
                        exact ih_j (j + 1) τ21 x6 _ _ _ hlt_j (by omega) (by rw [mCoL, ← hI_j]; dsimp only; subst hτ21; rw [if_pos c_18, if_neg c_22]) hP hD hS (lv_sub hl [2, 3, 4, 5, 1, 0] rfl)
                      · refine lv_iload hx hb kd_M_coordinate_162 (lv_at hl 4 rfl) ?_
                        refine lv_iconst (v := 1) hx hb kd_M_coordinate_164 (by decide) ?_
                        refine lv_iadd hx hb kd_M_coordinate_165 ?_
                        refine lv_goto (tgt := 171) hx hb kd_M_coordinate_166 (by decide) ?_
                        refine lv_istore (lv' := [(6, .int (x6 + 1)), (0, .ref (ad (0, 0))), (3, .int (nI ((n + 7) / 8))), (4, .int (τ1.2.1 (u + 1))), (5, .int (τ1.2.1 (v + 1))), (7, .int (nI (j + 1)))]) hx hb kd_M_coordinate_171 hl (by decide) rfl (fun ls hl => ?_)
                        refine lv_iinc (v := nI (j + 1 + 1)) (lv' := [(7, .int (nI (j + 1 + 1))), (6, .int (x6 + 1)), (0, .ref (ad (0, 0))), (3, .int (nI ((n + 7) / 8))), (4, .int (τ1.2.1 (u + 1))), (5, .int (τ1.2.1 (v + 1)))]) hx hb kd_M_coordinate_173 hl (k := 5) rfl (nI_1 (j + 1)) (by decide) rfl (fun ls hl => ?_)
                        refine lv_goto (tgt := 113) hx hb kd_M_coordinate_176 (by decide) ?_
                        exact ih_j (j + 1) τ21 (x6 + 1) _ _ _ hlt_j (by omega) (by rw [mCoL, ← hI_j]; dsimp only; subst hτ21; rw [if_pos c_18, if_pos c_22]) hP hD hS (lv_sub hl [2, 3, 4, 5, 1, 0] rfl)
              exact loop ((n + 7) / 8 + 1) 0 τ1 0 _ _ _ (Nat.zero_le _) (by omega) rfl hP hD hS (lv_sub hl [5, 4, 3, 2, 1, 0] rfl)
          · refine lv_bipush (v := (-2)) hx hb kd_M_coordinate_40 (by decide) ?_
            exact W.iret (v := (-2)) hx hb hr (fun t ht hW => ⟨⟨(-2), τ1, rfl, ndP_y (by unfold nbs; omega) hu rfl (ndP_y (by unfold nbs; omega) hv rfl (by unfold mCoF; rw [if_pos (nd_eq (n := nbs n) (by unfold nbs; omega) hu hv rfl c_9), ← hτ1]; rfl)), by rw [ht]; exact hP, va_K.moved hW.alike hK, hD.weaken (fun _ _ _ _ => trivial)⟩, hS.F ht⟩) hS.2.2 kd_M_coordinate_42
        · refine lv_iconst (v := (-1)) hx hb kd_M_coordinate_33 (by decide) ?_
          exact W.iret (v := (-1)) hx hb hr (fun t ht hW => ⟨⟨(-1), τ1, rfl, (by obtain ⟨u, hu, hku⟩ := isn_y (n := nbs n) (by unfold nbs; omega) c_5 c_6; exact ndP_y (by unfold nbs; omega) hu hku (ndP_n (isn_n2 (by unfold nbs; omega) (Int32.not_le.mp c_8)) (by rw [← hτ1]; rfl))), by rw [ht]; exact hP, va_K.moved hW.alike hK, hD.weaken (fun _ _ _ _ => trivial)⟩, hS.F ht⟩) hS.2.2 kd_M_coordinate_34
