theorem lp_endg {j N : Nat} (hN : N < 2 ^ 30) (hj : j ≤ N) (h : nI (j + 1) > nI N) : j = N := by
  rcases Nat.lt_or_ge j N with q | q
  · exact absurd h (nI_nlt (by omega) (by omega))
  · omega
theorem lp_gog {j N : Nat} (hN : N < 2 ^ 30) (hj : j ≤ N) (h : ¬ nI (j + 1) > nI N) : j < N := by
  rcases Nat.lt_or_ge j N with q | q
  · exact q
  · exact absurd (nI_lt (by omega) (by omega)) h
theorem lp_end1 {j N : Nat} (hN : N < 2 ^ 30) (hj : j ≤ N) (h : nI (N + 1) ≤ nI (j + 1)) : j = N := by
  have := lp_end (j := j + 1) (N := N + 1) (by omega) (by omega) h
  omega
theorem lp_go1 {j N : Nat} (hN : N < 2 ^ 30) (hj : j ≤ N) (h : ¬ nI (N + 1) ≤ nI (j + 1)) : j < N := by
  have := lp_go (j := j + 1) (N := N + 1) (by omega) (by omega) h
  omega
def mRwA (σ : MS) (v : Nat) : Nat → MS × Int32
  | 0 => (setM σ v ((σ.1 v).1, (σ.1 v).2.1, (σ.1 v).2.2.1, (σ.1 v).2.2.2.1, (σ.1 v).2.2.2.2.1, (σ.1 v).2.2.2.2.2.1, σ.2.2.2.2.1, (σ.1 v).2.2.2.2.2.2.2.1, (σ.1 v).2.2.2.2.2.2.2.2.1, (σ.1 v).2.2.2.2.2.2.2.2.2), 0)
  | k + 1 =>
    if nI ((k + 1 + 7) / 8) = nI ((v + 7) / 8) then
      (if nI (k + 1) = nI v then mRwA σ v k
       else if ((mRwA σ v k).1.1 (k + 1)).2.2.2.1 = 0 then
         (if ((mRwA σ v k).1.1 (k + 1)).1 = 0 then mRwA σ v k
          else (let s1 : MS := setM (mRwA σ v k).1 (k + 1) (((mRwA σ v k).1.1 (k + 1)).1, ((mRwA σ v k).1.1 (k + 1)).2.1, ((mRwA σ v k).1.1 (k + 1)).2.2.1, ((mRwA σ v k).1.1 (k + 1)).2.2.2.1, ((mRwA σ v k).1.1 (k + 1)).2.2.2.2.1, ((mRwA σ v k).1.1 (k + 1)).2.2.2.2.2.1, (mRwA σ v k).1.2.2.2.2.1, ((mRwA σ v k).1.1 (k + 1)).2.2.2.2.2.2.2.1, ((mRwA σ v k).1.1 (k + 1)).2.2.2.2.2.2.2.2.1, ((mRwA σ v k).1.1 (k + 1)).2.2.2.2.2.2.2.2.2)
                if (s1.1 (k + 1)).1 = 1 then (mWak s1 (k + 1), (mRwA σ v k).2 + 1) else (s1, (mRwA σ v k).2 + 1)))
       else mRwA σ v k)
    else mRwA σ v k
/-- a bit of a mask, as the reference asks for it -/
abbrev tbS (x : Int32) (k : Nat) : Prop := ((x >>> (nI k &&& 31)) &&& 1) = 1
def mRwB (σ : MS) (v : Nat) : Nat → MS
  | 0 => σ
  | k + 1 =>
    if mWn ((mRwB σ v k).1 v) then
      (if tbS ((mRwB σ v k).1 v).2.2.2.2.1 k then
        (let s0 : MS := mRwB σ v k
         let s1 : MS := (s0.1, s0.2.1, vp_updL (s0.2.2.1) (32 * ((v + 7) / 8) + k) s0.2.2.2.2.1, s0.2.2.2.1, s0.2.2.2.2)
         (s1.1, s1.2.1, s1.2.2.1, upd (s1.2.2.2.1) (32 * ((v + 7) / 8) + k) 1, s1.2.2.2.2))
       else mRwB σ v k)
    else mRwB σ v k
def mRwR (n : Nat) (σ : MS) (v : Nat) : Int32 := (mRwA σ v n).2
def mRwS (n : Nat) (σ : MS) (v : Nat) : MS := mRwB (mRwA σ v n).1 v 32
set_option maxHeartbeats 4000000 in
set_option maxRecDepth 100000 in
theorem ct_M_row (l : Launch) (D : va_G) {n : Nat} (hn : 1 ≤ n ∧ n ≤ 64) (ad : Nat × Nat → Nat) (cI cZ cL : ClassId) (σ : MS) {v : Nat} (hv1 : 1 ≤ v) (hv2 : v ≤ n) (sz : Nat) : Met l ky_M_row (km ky_M_row kc_M_row 4 (some .int)) ({ frames := 2, cells := 0, slots := 0, locals := 43 }) (mPre D n ad cI cZ cL σ [.ref (ad (0, 0)), .int (nI v)] sz) (mQi D n ad cI cZ cL sz (fun r τ => r = mRwR n σ v ∧ mRwS n σ v = τ)) 0 0 (kA (kM) ad sz) := by
  refine Met.ofW (cc := kc_M_row) (maxL := 4) (ret := (some .int)) (by decide) rfl ?_
  intro p e s m args below meth c s₁ B hml hv
  obtain ⟨rfl, hsz, hP, hK, hD0⟩ := hv
  have hx := B.exec
  have hb := B.bytes
  have hr := B.returns
  have hts := atoms_spec (ws := km ky_M_row kc_M_row 4 (some .int)) B.pre
  have hT : ∀ w ∈ kB_l, w ∈ km ky_M_row kc_M_row 4 (some .int) := fun w h => List.mem_cons_of_mem _ h
  have hw := fun w h => hts w (hT w h)
  have hown : s.vm.findClass kR_M = some m.cls := findClass_of_methodNamed B.named
  have hlocks := B.notSynchronized
  subst hsz
  have hD : va_D (kA (kM) ad s.heap.size) (kW (kM) ad (gM n ad cI cZ cL σ)) := kD_any _ hD0
  have hS : va_S (kA (kM) ad s.heap.size) s.heap s.heap [] := va_S.rf
  have hl := lv_entry ([.ref (ad (0, 0)), .int (nI v)]) (n := 4) (Nat.le_of_ble_eq_true rfl)
  rw [lg_entry_eq]
  generalize (lg_sl ([.ref (ad (0, 0)), .int (nI v)]) ++ List.replicate (4 - (lg_sl ([.ref (ad (0, 0)), .int (nI v)])).length) Slot.unset).toArray = ls at hl ⊢
  have hl : lv_has ls 4 [(0, .ref (ad (0, 0))), (1, .int (nI v))] := hl
  refine lv_iconst (v := 0) hx hb kd_M_row_0 (by decide) ?_
  refine lv_istore_n (lv' := [(2, .int 0), (0, .ref (ad (0, 0))), (1, .int (nI v))]) hx hb kd_M_row_1 rfl hl (by decide) rfl (fun ls hl => ?_)
  refine lv_aload_n hx hb kd_M_row_2 rfl (lv_at hl 1 rfl) ?_
  refine kx_get (ci := 3) (fs := thisM ad n σ) (v := .ref (ad (7, 0))) hx hb hw ki_M hown hK hP kM_0 rfl rfl 8 (by decide) kw_249 rfl rfl kd_M_row_3 ?_
  refine lv_iload_n hx hb kd_M_row_6 rfl (lv_at hl 2 rfl) ?_
  refine lv_aload_n hx hb kd_M_row_7 rfl (lv_at hl 1 rfl) ?_
  refine kx_get (ci := 3) (fs := thisM ad n σ) (v := .long σ.2.2.2.2.1) hx hb hw ki_M hown hK hP kM_0 rfl rfl 15 (by decide) kw_256 rfl rfl kd_M_row_8 ?_
  refine kx_last (i := v) (g2 := gM n ad cI cZ cL (setM σ v ((σ.1 v).1, (σ.1 v).2.1, (σ.1 v).2.2.1, (σ.1 v).2.2.2.1, (σ.1 v).2.2.2.2.1, (σ.1 v).2.2.2.2.2.1, σ.2.2.2.2.1, (σ.1 v).2.2.2.2.2.2.2.1, (σ.1 v).2.2.2.2.2.2.2.2.1, (σ.1 v).2.2.2.2.2.2.2.2.2))) hx hb hK hP hD hS kM_7 2 rfl rfl rfl (by omega) (by decide) gM_7 kd_M_row_11 (fun H locs hP hD hS => ?_)
  generalize hτ1 : (setM σ v ((σ.1 v).1, (σ.1 v).2.1, (σ.1 v).2.2.1, (σ.1 v).2.2.2.1, (σ.1 v).2.2.2.2.1, (σ.1 v).2.2.2.2.2.1, σ.2.2.2.2.1, (σ.1 v).2.2.2.2.2.2.2.1, (σ.1 v).2.2.2.2.2.2.2.2.1, (σ.1 v).2.2.2.2.2.2.2.2.2) : MS) = τ1 at hP hD
  refine lv_iconst (v := 1) hx hb kd_M_row_12 (by decide) ?_
  refine lv_istore_n (lv' := [(3, .int 1), (2, .int 0), (0, .ref (ad (0, 0))), (1, .int (nI v))]) hx hb kd_M_row_13 rfl hl (by decide) rfl (fun ls hl => ?_)
  have loop : ∀ (q j : Nat) (ρj : MS) (x2 : Int32) (H : Heap) (locs : List Loc) (ls : Array Slot), j ≤ n → n < j + q → ((ρj, x2) = mRwA σ v j) → va_P D kCl (kW (kM) ad (gM n ad cI cZ cL ρj)) H → va_D (kA (kM) ad s.heap.size) (kW (kM) ad (gM n ad cI cZ cL ρj)) → va_S (kA (kM) ad s.heap.size) s.heap H locs → lv_has ls 4 [(0, .ref (ad (0, 0))), (1, .int (nI v)), (2, .int x2), (3, .int (nI (j + 1)))] → W p l e (headSpec (km ky_M_row kc_M_row 4 (some .int)) ({ frames := 2, cells := 0, slots := 0, locals := 43 })).room s m [.ref (ad (0, 0)), .int (nI v)].toArray below meth c H locs 0 0 (MQ below (mQi D n ad cI cZ cL s.heap.size (fun r τ => r = mRwR n σ v ∧ mRwS n σ v = τ)) [.ref (ad (0, 0)), .int (nI v)].toArray s 0 0 (kA (kM) ad s.heap.size)) (F0 m 14 ls []) := by
    intro q
    induction q with
    | zero => intro j ρj x2 H locs ls hj_j hq_j; exact absurd hq_j (by omega)
    | succ q ih_j =>
      intro j ρj x2 H locs ls hj_j hq_j hI_j hP hD hS hl
      refine lv_iload_n hx hb kd_M_row_14 rfl (lv_at hl 3 rfl) ?_
      refine lv_aload_n hx hb kd_M_row_15 rfl (lv_at hl 0 rfl) ?_
      refine kx_get (ci := 3) (fs := thisM ad n ρj) (v := .int (nI n)) hx hb hw ki_M hown hK hP kM_0 rfl rfl 1 (by decide) kw_242 rfl rfl kd_M_row_16 ?_
      refine lv_icmp_gt (tgt := 90) hx hb kd_M_row_19 (by decide) (fun c_2 => ?_) (fun c_2 => ?_)
      · have hje_j : j = n := lp_endg (by omega) hj_j c_2
        refine lv_iconst (v := 0) hx hb kd_M_row_90 (by decide) ?_
        refine lv_istore_n (lv' := [(3, .int 0), (0, .ref (ad (0, 0))), (1, .int (nI v)), (2, .int x2)]) hx hb kd_M_row_91 rfl hl (by decide) rfl (fun ls hl => ?_)
        have loop2 : ∀ (q k : Nat) (ρk : MS)  (H : Heap) (locs : List Loc) (ls : Array Slot), k ≤ 32 → 32 < k + q → (ρk = mRwB (mRwA σ v n).1 v k) → va_P D kCl (kW (kM) ad (gM n ad cI cZ cL ρk)) H → va_D (kA (kM) ad s.heap.size) (kW (kM) ad (gM n ad cI cZ cL ρk)) → va_S (kA (kM) ad s.heap.size) s.heap H locs → lv_has ls 4 [(0, .ref (ad (0, 0))), (1, .int (nI v)), (2, .int x2), (3, .int (nI k))] → W p l e (headSpec (km ky_M_row kc_M_row 4 (some .int)) ({ frames := 2, cells := 0, slots := 0, locals := 43 })).room s m [.ref (ad (0, 0)), .int (nI v)].toArray below meth c H locs 0 0 (MQ below (mQi D n ad cI cZ cL s.heap.size (fun r τ => r = mRwR n σ v ∧ mRwS n σ v = τ)) [.ref (ad (0, 0)), .int (nI v)].toArray s 0 0 (kA (kM) ad s.heap.size)) (F0 m 92 ls []) := by
          intro q
          induction q with
          | zero => intro k ρk  H locs ls hj_k hq_k; exact absurd hq_k (by omega)
          | succ q ih_k =>
            intro k ρk  H locs ls hj_k hq_k hI_k hP hD hS hl
            refine lv_iload_n hx hb kd_M_row_92 rfl (lv_at hl 3 rfl) ?_
            refine lv_bipush (v := 32) hx hb kd_M_row_93 (by decide) ?_
            refine lv_icmp_ge (tgt := 159) hx hb kd_M_row_95 (by decide) (fun c_3 => ?_) (fun c_3 => ?_)
            · have hje_k : k = 32 := lp_end (by decide) hj_k c_3
              refine lv_iload_n hx hb kd_M_row_159 rfl (lv_at hl 2 rfl) ?_
              exact W.iret (v := x2) hx hb hr (fun t ht hW => ⟨⟨x2, ρk, rfl, ⟨by rw [hje_j] at hI_j; unfold mRwR; rw [← hI_j], by rw [hje_k] at hI_k; exact hI_k.symm⟩, by rw [ht]; exact hP, va_K.moved hW.alike hK, hD.weaken (fun _ _ _ _ => trivial)⟩, hS.F ht⟩) hS.2.2 kd_M_row_160
            · have hlt_k : k < 32 := lp_go (by decide) hj_k c_3
              refine lv_aload_n hx hb kd_M_row_98 rfl (lv_at hl 0 rfl) ?_
              refine lv_iload_n hx hb kd_M_row_99 rfl (lv_at hl 1 rfl) ?_
              refine kx_Vi (G := gM n ad cI cZ cL) (σ := ρk) (κ := (0, 0)) (ci := 3) (fs := thisM ad n ρk) (As := [.int (nI v)]) (rest := []) (n := 1) hx hb hml hown hts hT (ct_M_wants l D hn ad cI cZ cL ρk hv1 hv2 H.size) kw_303 kw_305 ks_15 kw_5 kw_306 (by decide +kernel) ⟨rfl, rfl⟩ ⟨Nat.le_of_ble_eq_true rfl, Nat.le_of_ble_eq_true rfl⟩ hK hP hD hS kM_0 rfl rfl rfl hl.1 (Nat.le_of_ble_eq_true rfl) kd_M_row_100 rfl ⟨Nat.zero_le _, Nat.zero_le _⟩ (fun r_4 τ5 H locs hq6 hP hD hS => ?_)
              obtain ⟨⟨rfl, q_7⟩ | ⟨rfl, q_7⟩, rfl⟩ := hq6
              · refine lv_if_eq (tgt := 153) hx hb kd_M_row_103 (by decide) (fun c0 => absurd c0 (by decide)) (fun _ => ?_)
                refine lv_aload_n hx hb kd_M_row_106 rfl (lv_at hl 0 rfl) ?_
                refine kx_get (ci := 3) (fs := thisM ad n ρk) (v := .ref (ad (5, 0))) hx hb hw ki_M hown hK hP kM_0 rfl rfl 6 (by decide) kw_247 rfl rfl kd_M_row_107 ?_
                refine lv_iload_n hx hb kd_M_row_110 rfl (lv_at hl 1 rfl) ?_
                refine kx_iald (i := v) hx hb hK hP kM_5 0 rfl rfl rfl (by omega) (by decide) kd_M_row_111 ?_
                refine lv_iload_n hx hb kd_M_row_112 rfl (lv_at hl 3 rfl) ?_
                refine lv_ishr hx hb kd_M_row_113 ?_
                refine lv_iconst (v := 1) hx hb kd_M_row_114 (by decide) ?_
                refine lv_iand hx hb kd_M_row_115 ?_
                refine lv_iconst (v := 1) hx hb kd_M_row_116 (by decide) ?_
                refine lv_icmp_ne (tgt := 153) hx hb kd_M_row_117 (by decide) (fun c_8 => ?_) (fun c_8 => ?_)
                · refine lv_iinc (v := nI (k + 1)) (lv' := [(3, .int (nI (k + 1))), (0, .ref (ad (0, 0))), (1, .int (nI v)), (2, .int x2)]) hx hb kd_M_row_153 hl (k := 3) rfl (nI_1 k) (by decide) rfl (fun ls hl => ?_)
                  refine lv_goto (tgt := 92) hx hb kd_M_row_156 (by decide) ?_
                  exact ih_k (k + 1) ρk  _ _ _ hlt_k (by omega) (by rw [mRwB, ← hI_k]; dsimp only; rw [if_pos q_7, if_neg c_8]) hP hD hS (lv_sub hl [1, 2, 3, 0] rfl)
                · refine lv_aload_n hx hb kd_M_row_120 rfl (lv_at hl 0 rfl) ?_
                  refine kx_get (ci := 3) (fs := thisM ad n ρk) (v := .ref (ad (12, 0))) hx hb hw ki_M hown hK hP kM_0 rfl rfl 13 (by decide) kw_254 rfl rfl kd_M_row_121 ?_
                  refine lv_bipush (v := 32) hx hb kd_M_row_124 (by decide) ?_
                  refine lv_iload_n hx hb kd_M_row_126 rfl (lv_at hl 1 rfl) ?_
                  refine kx_Si (G := gM n ad cI cZ cL) (σ := ρk) (As := [.int (nI v)]) (rest := [.int 32, .ref (ad (12, 0))]) (n := 1) hx hb hml hown hts hT (ct_M_bus l D hn ad cI cZ cL ρk (by omega) H.size) kw_338 kw_339 kw_5 kw_340 (by decide +kernel) ⟨rfl, rfl⟩ ⟨Nat.le_of_ble_eq_true rfl, Nat.le_of_ble_eq_true rfl⟩ hK hP hD hS rfl hl.1 (Nat.le_of_ble_eq_true rfl) kd_M_row_127 rfl ⟨Nat.zero_le _, Nat.zero_le _⟩ (fun r_9 τ10 H locs hq11 hP hD hS => ?_)
                  obtain ⟨rfl, rfl⟩ := hq11
                  refine lv_imul hx hb kd_M_row_130 ?_
                  refine lv_iload_n hx hb kd_M_row_131 rfl (lv_at hl 3 rfl) ?_
                  refine lv_iadd hx hb kd_M_row_132 ?_
                  refine lv_aload_n hx hb kd_M_row_133 rfl (lv_at hl 0 rfl) ?_
                  refine kx_get (ci := 3) (fs := thisM ad n ρk) (v := .long ρk.2.2.2.2.1) hx hb hw ki_M hown hK hP kM_0 rfl rfl 15 (by decide) kw_256 rfl rfl kd_M_row_134 ?_
                  refine kx_last (i := 32 * ((v + 7) / 8) + k) (g2 := gM n ad cI cZ cL ((ρk.1, ρk.2.1, vp_updL (ρk.2.2.1) (32 * ((v + 7) / 8) + k) ρk.2.2.2.2.1, ρk.2.2.2.1, ρk.2.2.2.2))) hx hb hK hP hD hS kM_12 2 rfl rfl (ix32 ((v + 7) / 8) k) (by omega) (by decide) gM_12 kd_M_row_137 (fun H locs hP hD hS => ?_)
                  generalize hτ12 : ((ρk.1, ρk.2.1, vp_updL (ρk.2.2.1) (32 * ((v + 7) / 8) + k) ρk.2.2.2.2.1, ρk.2.2.2.1, ρk.2.2.2.2) : MS) = τ12 at hP hD
                  refine lv_aload_n hx hb kd_M_row_138 rfl (lv_at hl 0 rfl) ?_
                  refine kx_get (ci := 3) (fs := thisM ad n τ12) (v := .ref (ad (13, 0))) hx hb hw ki_M hown hK hP kM_0 rfl rfl 14 (by decide) kw_255 rfl rfl kd_M_row_139 ?_
                  refine lv_bipush (v := 32) hx hb kd_M_row_142 (by decide) ?_
                  refine lv_iload_n hx hb kd_M_row_144 rfl (lv_at hl 1 rfl) ?_
                  refine kx_Si (G := gM n ad cI cZ cL) (σ := τ12) (As := [.int (nI v)]) (rest := [.int 32, .ref (ad (13, 0))]) (n := 1) hx hb hml hown hts hT (ct_M_bus l D hn ad cI cZ cL τ12 (by omega) H.size) kw_338 kw_339 kw_5 kw_340 (by decide +kernel) ⟨rfl, rfl⟩ ⟨Nat.le_of_ble_eq_true rfl, Nat.le_of_ble_eq_true rfl⟩ hK hP hD hS rfl hl.1 (Nat.le_of_ble_eq_true rfl) kd_M_row_145 rfl ⟨Nat.zero_le _, Nat.zero_le _⟩ (fun r_13 τ14 H locs hq15 hP hD hS => ?_)
                  obtain ⟨rfl, rfl⟩ := hq15
                  refine lv_imul hx hb kd_M_row_148 ?_
                  refine lv_iload_n hx hb kd_M_row_149 rfl (lv_at hl 3 rfl) ?_
                  refine lv_iadd hx hb kd_M_row_150 ?_
                  refine lv_iconst (v := 1) hx hb kd_M_row_151 (by decide) ?_
                  refine kx_zast (i := 32 * ((v + 7) / 8) + k) (g2 := gM n ad cI cZ cL ((τ12.1, τ12.2.1, τ12.2.2.1, upd (τ12.2.2.2.1) (32 * ((v + 7) / 8) + k) 1, τ12.2.2.2.2))) hx hb hK hP hD hS kM_13 1 rfl rfl rfl (ix32 ((v + 7) / 8) k) (by omega) (by decide) gM_13 kd_M_row_152 (fun H locs hP hD hS => ?_)
                  generalize hτ16 : ((τ12.1, τ12.2.1, τ12.2.2.1, upd (τ12.2.2.2.1) (32 * ((v + 7) / 8) + k) 1, τ12.2.2.2.2) : MS) = τ16 at hP hD
                  refine lv_iinc (v := nI (k + 1)) (lv' := [(3, .int (nI (k + 1))), (0, .ref (ad (0, 0))), (1, .int (nI v)), (2, .int x2)]) hx hb kd_M_row_153 hl (k := 3) rfl (nI_1 k) (by decide) rfl (fun ls hl => ?_)
                  refine lv_goto (tgt := 92) hx hb kd_M_row_156 (by decide) ?_
                  exact ih_k (k + 1) τ16  _ _ _ hlt_k (by omega) (by rw [mRwB, ← hI_k]; dsimp only; subst hτ12; subst hτ16; rw [if_pos q_7, if_pos c_8]) hP hD hS (lv_sub hl [1, 2, 3, 0] rfl)
              · refine lv_if_eq (tgt := 153) hx hb kd_M_row_103 (by decide) (fun _ => ?_) (fun c0 => absurd (by decide) c0)
                refine lv_iinc (v := nI (k + 1)) (lv' := [(3, .int (nI (k + 1))), (0, .ref (ad (0, 0))), (1, .int (nI v)), (2, .int x2)]) hx hb kd_M_row_153 hl (k := 3) rfl (nI_1 k) (by decide) rfl (fun ls hl => ?_)
                refine lv_goto (tgt := 92) hx hb kd_M_row_156 (by decide) ?_
                exact ih_k (k + 1) ρk  _ _ _ hlt_k (by omega) (by rw [mRwB, ← hI_k]; dsimp only; rw [if_neg q_7]) hP hD hS (lv_sub hl [1, 2, 3, 0] rfl)
        exact loop2 (32 + 1) 0 ρj  _ _ _ (Nat.zero_le _) (by omega) (by rw [hje_j] at hI_j; rw [← hI_j]; rfl) hP hD hS (lv_sub hl [1, 2, 3, 0] rfl)
      · have hlt_j : j < n := lp_gog (by omega) hj_j c_2
        refine lv_iload_n hx hb kd_M_row_22 rfl (lv_at hl 3 rfl) ?_
        refine kx_Si (G := gM n ad cI cZ cL) (σ := ρj) (As := [.int (nI (j + 1))]) (rest := []) (n := 1) hx hb hml hown hts hT (ct_M_bus l D hn ad cI cZ cL ρj (by omega) H.size) kw_338 kw_339 kw_5 kw_340 (by decide +kernel) ⟨rfl, rfl⟩ ⟨Nat.le_of_ble_eq_true rfl, Nat.le_of_ble_eq_true rfl⟩ hK hP hD hS rfl hl.1 (Nat.le_of_ble_eq_true rfl) kd_M_row_23 rfl ⟨Nat.zero_le _, Nat.zero_le _⟩ (fun r_17 τ18 H locs hq19 hP hD hS => ?_)
        obtain ⟨rfl, rfl⟩ := hq19
        refine lv_iload_n hx hb kd_M_row_26 rfl (lv_at hl 1 rfl) ?_
        refine kx_Si (G := gM n ad cI cZ cL) (σ := ρj) (As := [.int (nI v)]) (rest := [.int (nI ((j + 1 + 7) / 8))]) (n := 1) hx hb hml hown hts hT (ct_M_bus l D hn ad cI cZ cL ρj (by omega) H.size) kw_338 kw_339 kw_5 kw_340 (by decide +kernel) ⟨rfl, rfl⟩ ⟨Nat.le_of_ble_eq_true rfl, Nat.le_of_ble_eq_true rfl⟩ hK hP hD hS rfl hl.1 (Nat.le_of_ble_eq_true rfl) kd_M_row_27 rfl ⟨Nat.zero_le _, Nat.zero_le _⟩ (fun r_20 τ21 H locs hq22 hP hD hS => ?_)
        obtain ⟨rfl, rfl⟩ := hq22
        refine lv_icmp_ne (tgt := 84) hx hb kd_M_row_30 (by decide) (fun c_23 => ?_) (fun c_23 => ?_)
        · refine lv_iinc (v := nI (j + 1 + 1)) (lv' := [(3, .int (nI (j + 1 + 1))), (0, .ref (ad (0, 0))), (1, .int (nI v)), (2, .int x2)]) hx hb kd_M_row_84 hl (k := 3) rfl (nI_1 (j + 1)) (by decide) rfl (fun ls hl => ?_)
          refine lv_goto (tgt := 14) hx hb kd_M_row_87 (by decide) ?_
          exact ih_j (j + 1) ρj x2 _ _ _ hlt_j (by omega) (by rw [mRwA, ← hI_j]; dsimp only; rw [if_neg c_23]) hP hD hS (lv_sub hl [1, 2, 3, 0] rfl)
        · refine lv_iload_n hx hb kd_M_row_33 rfl (lv_at hl 3 rfl) ?_
          refine lv_iload_n hx hb kd_M_row_34 rfl (lv_at hl 1 rfl) ?_
          refine lv_icmp_eq (tgt := 84) hx hb kd_M_row_35 (by decide) (fun c_24 => ?_) (fun c_24 => ?_)
          · refine lv_iinc (v := nI (j + 1 + 1)) (lv' := [(3, .int (nI (j + 1 + 1))), (0, .ref (ad (0, 0))), (1, .int (nI v)), (2, .int x2)]) hx hb kd_M_row_84 hl (k := 3) rfl (nI_1 (j + 1)) (by decide) rfl (fun ls hl => ?_)
            refine lv_goto (tgt := 14) hx hb kd_M_row_87 (by decide) ?_
            exact ih_j (j + 1) ρj x2 _ _ _ hlt_j (by omega) (by rw [mRwA, ← hI_j]; dsimp only; rw [if_pos c_23, if_pos c_24]) hP hD hS (lv_sub hl [1, 2, 3, 0] rfl)
          · refine lv_aload_n hx hb kd_M_row_38 rfl (lv_at hl 0 rfl) ?_
            refine kx_get (ci := 3) (fs := thisM ad n ρj) (v := .ref (ad (4, 0))) hx hb hw ki_M hown hK hP kM_0 rfl rfl 5 (by decide) kw_246 rfl rfl kd_M_row_39 ?_
            refine lv_iload_n hx hb kd_M_row_42 rfl (lv_at hl 3 rfl) ?_
            refine kx_zald (i := j + 1) hx hb hK hP kM_4 1 rfl rfl rfl (by omega) (by decide) kd_M_row_43 ?_
            refine lv_if_ne (tgt := 84) hx hb kd_M_row_44 (by decide) (fun c_25 => ?_) (fun c_25 => ?_)
            · refine lv_iinc (v := nI (j + 1 + 1)) (lv' := [(3, .int (nI (j + 1 + 1))), (0, .ref (ad (0, 0))), (1, .int (nI v)), (2, .int x2)]) hx hb kd_M_row_84 hl (k := 3) rfl (nI_1 (j + 1)) (by decide) rfl (fun ls hl => ?_)
              refine lv_goto (tgt := 14) hx hb kd_M_row_87 (by decide) ?_
              exact ih_j (j + 1) ρj x2 _ _ _ hlt_j (by omega) (by rw [mRwA, ← hI_j]; dsimp only; rw [if_pos c_23, if_neg c_24, if_neg c_25]) hP hD hS (lv_sub hl [1, 2, 3, 0] rfl)
            · refine lv_aload_n hx hb kd_M_row_47 rfl (lv_at hl 0 rfl) ?_
              refine kx_get (ci := 3) (fs := thisM ad n ρj) (v := .ref (ad (1, 0))) hx hb hw ki_M hown hK hP kM_0 rfl rfl 2 (by decide) kw_243 rfl rfl kd_M_row_48 ?_
              refine lv_iload_n hx hb kd_M_row_51 rfl (lv_at hl 3 rfl) ?_
              refine kx_iald (i := j + 1) hx hb hK hP kM_1 0 rfl rfl rfl (by omega) (by decide) kd_M_row_52 ?_
              refine lv_if_eq (tgt := 84) hx hb kd_M_row_53 (by decide) (fun c_26 => ?_) (fun c_26 => ?_)
              · refine lv_iinc (v := nI (j + 1 + 1)) (lv' := [(3, .int (nI (j + 1 + 1))), (0, .ref (ad (0, 0))), (1, .int (nI v)), (2, .int x2)]) hx hb kd_M_row_84 hl (k := 3) rfl (nI_1 (j + 1)) (by decide) rfl (fun ls hl => ?_)
                refine lv_goto (tgt := 14) hx hb kd_M_row_87 (by decide) ?_
                exact ih_j (j + 1) ρj x2 _ _ _ hlt_j (by omega) (by rw [mRwA, ← hI_j]; dsimp only; rw [if_pos c_23, if_neg c_24, if_pos c_25, if_pos c_26]) hP hD hS (lv_sub hl [1, 2, 3, 0] rfl)
              · refine lv_iinc (v := x2 + 1) (lv' := [(2, .int (x2 + 1)), (0, .ref (ad (0, 0))), (1, .int (nI v)), (3, .int (nI (j + 1)))]) hx hb kd_M_row_56 hl (k := 2) rfl rfl (by decide) rfl (fun ls hl => ?_)
                refine lv_aload_n hx hb kd_M_row_59 rfl (lv_at hl 1 rfl) ?_
                refine kx_get (ci := 3) (fs := thisM ad n ρj) (v := .ref (ad (7, 0))) hx hb hw ki_M hown hK hP kM_0 rfl rfl 8 (by decide) kw_249 rfl rfl kd_M_row_60 ?_
                refine lv_iload_n hx hb kd_M_row_63 rfl (lv_at hl 3 rfl) ?_
                refine lv_aload_n hx hb kd_M_row_64 rfl (lv_at hl 1 rfl) ?_
                refine kx_get (ci := 3) (fs := thisM ad n ρj) (v := .long ρj.2.2.2.2.1) hx hb hw ki_M hown hK hP kM_0 rfl rfl 15 (by decide) kw_256 rfl rfl kd_M_row_65 ?_
                refine kx_last (i := j + 1) (g2 := gM n ad cI cZ cL (setM ρj (j + 1) ((ρj.1 (j + 1)).1, (ρj.1 (j + 1)).2.1, (ρj.1 (j + 1)).2.2.1, (ρj.1 (j + 1)).2.2.2.1, (ρj.1 (j + 1)).2.2.2.2.1, (ρj.1 (j + 1)).2.2.2.2.2.1, ρj.2.2.2.2.1, (ρj.1 (j + 1)).2.2.2.2.2.2.2.1, (ρj.1 (j + 1)).2.2.2.2.2.2.2.2.1, (ρj.1 (j + 1)).2.2.2.2.2.2.2.2.2))) hx hb hK hP hD hS kM_7 2 rfl rfl rfl (by omega) (by decide) gM_7 kd_M_row_68 (fun H locs hP hD hS => ?_)
                generalize hτ27 : (setM ρj (j + 1) ((ρj.1 (j + 1)).1, (ρj.1 (j + 1)).2.1, (ρj.1 (j + 1)).2.2.1, (ρj.1 (j + 1)).2.2.2.1, (ρj.1 (j + 1)).2.2.2.2.1, (ρj.1 (j + 1)).2.2.2.2.2.1, ρj.2.2.2.2.1, (ρj.1 (j + 1)).2.2.2.2.2.2.2.1, (ρj.1 (j + 1)).2.2.2.2.2.2.2.2.1, (ρj.1 (j + 1)).2.2.2.2.2.2.2.2.2) : MS) = τ27 at hP hD
                refine lv_aload_n hx hb kd_M_row_69 rfl (lv_at hl 1 rfl) ?_
                refine kx_get (ci := 3) (fs := thisM ad n τ27) (v := .ref (ad (1, 0))) hx hb hw ki_M hown hK hP kM_0 rfl rfl 2 (by decide) kw_243 rfl rfl kd_M_row_70 ?_
                refine lv_iload_n hx hb kd_M_row_73 rfl (lv_at hl 3 rfl) ?_
                refine kx_iald (i := j + 1) hx hb hK hP kM_1 0 rfl rfl rfl (by omega) (by decide) kd_M_row_74 ?_
                refine lv_iconst (v := 1) hx hb kd_M_row_75 (by decide) ?_
                refine lv_icmp_ne (tgt := 84) hx hb kd_M_row_76 (by decide) (fun c_28 => ?_) (fun c_28 => ?_)
                · refine lv_iinc (v := nI (j + 1 + 1)) (lv' := [(3, .int (nI (j + 1 + 1))), (2, .int (x2 + 1)), (0, .ref (ad (0, 0))), (1, .int (nI v))]) hx hb kd_M_row_84 hl (k := 3) rfl (nI_1 (j + 1)) (by decide) rfl (fun ls hl => ?_)
                  refine lv_goto (tgt := 14) hx hb kd_M_row_87 (by decide) ?_
                  exact ih_j (j + 1) τ27 (x2 + 1) _ _ _ hlt_j (by omega) (by rw [mRwA, ← hI_j]; dsimp only; subst hτ27; rw [if_pos c_23, if_neg c_24, if_pos c_25, if_neg c_26, if_neg c_28]) hP hD hS (lv_sub hl [2, 3, 1, 0] rfl)
                · refine lv_aload_n hx hb kd_M_row_79 rfl (lv_at hl 1 rfl) ?_
                  refine lv_iload_n hx hb kd_M_row_80 rfl (lv_at hl 3 rfl) ?_
                  refine kx_Vv (G := gM n ad cI cZ cL) (σ := τ27) (κ := (0, 0)) (ci := 3) (fs := thisM ad n τ27) (As := [.int (nI (j + 1))]) (rest := []) (n := 1) hx hb hml hown hts hT (ct_M_wakes l D hn ad cI cZ cL τ27 (Nat.succ_pos j) hlt_j H.size) kw_307 kw_309 ks_16 kw_5 kw_310 (by decide +kernel) ⟨rfl, rfl⟩ ⟨Nat.le_of_ble_eq_true rfl, Nat.le_of_ble_eq_true rfl⟩ hK hP hD hS kM_0 rfl rfl rfl hl.1 (Nat.le_of_ble_eq_true rfl) kd_M_row_81 rfl ⟨Nat.zero_le _, Nat.zero_le _⟩ (fun τ30 H locs hq31 hP hD hS => ?_)
                  have hτ30 := hq31
                  refine lv_iinc (v := nI (j + 1 + 1)) (lv' := [(3, .int (nI (j + 1 + 1))), (2, .int (x2 + 1)), (0, .ref (ad (0, 0))), (1, .int (nI v))]) hx hb kd_M_row_84 hl (k := 3) rfl (nI_1 (j + 1)) (by decide) rfl (fun ls hl => ?_)
                  refine lv_goto (tgt := 14) hx hb kd_M_row_87 (by decide) ?_
                  exact ih_j (j + 1) τ30 (x2 + 1) _ _ _ hlt_j (by omega) (by rw [mRwA, ← hI_j]; dsimp only; subst hτ27; subst hτ30; rw [if_pos c_23, if_neg c_24, if_pos c_25, if_neg c_26, if_pos c_28]) hP hD hS (lv_sub hl [2, 3, 1, 0] rfl)
  exact loop (n + 1) 0 τ1 0 _ _ _ (Nat.zero_le _) (by omega) (by rw [← hτ1]; rfl) hP hD hS (lv_sub hl [2, 3, 1, 0] rfl)
abbrev loudM (σ : MS) (w : Nat) : Prop := (σ.1 w).1 > 2 ∨ ((σ.1 w).1 = 2 ∧ ¬ 10 ≤ σ.2.2.2.2.1 - (σ.1 w).2.2.2.2.2.2.1)
abbrev quiM (σ : MS) (v w : Nat) : Prop := ¬ (σ.2.1 ((w + 1 + 7) / 8) = σ.2.1 ((v + 7) / 8) ∧ loudM σ (w + 1))
abbrev stlM (n : Nat) (σ : MS) (v : Nat) : Prop := ∀ w, w < n → quiM σ v w
theorem is_y {Pn : Nat → Prop} {x : Int32} {j : Nat} (h : (x = 1 ∧ ∀ w, w < j → Pn w) ∨ (x = 0 ∧ ¬ ∀ w, w < j → Pn w)) (hx : ¬ x = 0) (hp : Pn j) : ((1 : Int32) = 1 ∧ ∀ w, w < j + 1 → Pn w) ∨ ((1 : Int32) = 0 ∧ ¬ ∀ w, w < j + 1 → Pn w) := by
  rcases h with h | h
  · exact Or.inl ⟨rfl, lt_s h.2 hp⟩
  · exact absurd h.1 hx
theorem is_n0 {Pn : Nat → Prop} {x : Int32} {j : Nat} (h : (x = 1 ∧ ∀ w, w < j → Pn w) ∨ (x = 0 ∧ ¬ ∀ w, w < j → Pn w)) (hx : x = 0) : ((0 : Int32) = 1 ∧ ∀ w, w < j + 1 → Pn w) ∨ ((0 : Int32) = 0 ∧ ¬ ∀ w, w < j + 1 → Pn w) := by
  rcases h with h | h
  · exact absurd (h.1.symm.trans hx) (by decide)
  · exact Or.inr ⟨rfl, fun z => h.2 (fun w hw => z w (by omega))⟩
theorem is_n1 {Pn : Nat → Prop} {j : Nat} (hp : ¬ Pn j) : ((0 : Int32) = 1 ∧ ∀ w, w < j + 1 → Pn w) ∨ ((0 : Int32) = 0 ∧ ¬ ∀ w, w < j + 1 → Pn w) := Or.inr ⟨rfl, fun z => hp (z j (by omega))⟩
set_option maxHeartbeats 4000000 in
set_option maxRecDepth 100000 in
theorem ct_M_still (l : Launch) (D : va_G) {n : Nat} (hn : 1 ≤ n ∧ n ≤ 64) (ad : Nat × Nat → Nat) (cI cZ cL : ClassId) (σ : MS) {v : Nat} (hv1 : 1 ≤ v) (hv2 : v ≤ n) (sz : Nat) : Met l ky_M_still (km ky_M_still kc_M_still 5 (some .boolean)) ({ frames := 1, cells := 0, slots := 0, locals := 22 }) (mPre D n ad cI cZ cL σ [.ref (ad (0, 0)), .int (nI v)] sz) (mQi D n ad cI cZ cL sz (fun r τ => ((r = 1 ∧ stlM n σ v) ∨ (r = 0 ∧ ¬ stlM n σ v)) ∧ σ = τ)) 0 0 (kA (kM) ad sz) := by
  refine Met.ofW (cc := kc_M_still) (maxL := 5) (ret := (some .boolean)) (by decide) rfl ?_
  intro p e s m args below meth c s₁ B hml hv
  obtain ⟨rfl, hsz, hP, hK, hD0⟩ := hv
  have hx := B.exec
  have hb := B.bytes
  have hr := B.returns
  have hts := atoms_spec (ws := km ky_M_still kc_M_still 5 (some .boolean)) B.pre
  have hT : ∀ w ∈ kB_l, w ∈ km ky_M_still kc_M_still 5 (some .boolean) := fun w h => List.mem_cons_of_mem _ h
  have hw := fun w h => hts w (hT w h)
  have hown : s.vm.findClass kR_M = some m.cls := findClass_of_methodNamed B.named
  have hlocks := B.notSynchronized
  subst hsz
  have hD : va_D (kA (kM) ad s.heap.size) (kW (kM) ad (gM n ad cI cZ cL σ)) := kD_any _ hD0
  have hS : va_S (kA (kM) ad s.heap.size) s.heap s.heap [] := va_S.rf
  have hl := lv_entry ([.ref (ad (0, 0)), .int (nI v)]) (n := 5) (Nat.le_of_ble_eq_true rfl)
  rw [lg_entry_eq]
  generalize (lg_sl ([.ref (ad (0, 0)), .int (nI v)]) ++ List.replicate (5 - (lg_sl ([.ref (ad (0, 0)), .int (nI v)])).length) Slot.unset).toArray = ls at hl ⊢
  have hl : lv_has ls 5 [(0, .ref (ad (0, 0))), (1, .int (nI v))] := hl
  refine lv_iconst (v := 1) hx hb kd_M_still_0 (by decide) ?_
  refine lv_istore_n (lv' := [(2, .int 1), (0, .ref (ad (0, 0))), (1, .int (nI v))]) hx hb kd_M_still_1 rfl hl (by decide) rfl (fun ls hl => ?_)
  refine lv_iconst (v := 1) hx hb kd_M_still_2 (by decide) ?_
  refine lv_istore_n (lv' := [(3, .int 1), (2, .int 1), (0, .ref (ad (0, 0))), (1, .int (nI v))]) hx hb kd_M_still_3 rfl hl (by decide) rfl (fun ls hl => ?_)
  have loop : ∀ (q j : Nat) (ρj : MS) (x2 : Int32) (H : Heap) (locs : List Loc) (ls : Array Slot), j ≤ n → n < j + q → (σ = ρj ∧ ((x2 = 1 ∧ ∀ w, w < j → quiM σ v w) ∨ (x2 = 0 ∧ ¬ ∀ w, w < j → quiM σ v w))) → va_P D kCl (kW (kM) ad (gM n ad cI cZ cL ρj)) H → va_D (kA (kM) ad s.heap.size) (kW (kM) ad (gM n ad cI cZ cL ρj)) → va_S (kA (kM) ad s.heap.size) s.heap H locs → lv_has ls 5 [(0, .ref (ad (0, 0))), (1, .int (nI v)), (2, .int x2), (3, .int (nI (j + 1)))] → W p l e (headSpec (km ky_M_still kc_M_still 5 (some .boolean)) ({ frames := 1, cells := 0, slots := 0, locals := 22 })).room s m [.ref (ad (0, 0)), .int (nI v)].toArray below meth c H locs 0 0 (MQ below (mQi D n ad cI cZ cL s.heap.size (fun r τ => ((r = 1 ∧ stlM n σ v) ∨ (r = 0 ∧ ¬ stlM n σ v)) ∧ σ = τ)) [.ref (ad (0, 0)), .int (nI v)].toArray s 0 0 (kA (kM) ad s.heap.size)) (F0 m 4 ls []) := by
    intro q
    induction q with
    | zero => intro j ρj x2 H locs ls hj_j hq_j; exact absurd hq_j (by omega)
    | succ q ih_j =>
      intro j ρj x2 H locs ls hj_j hq_j hI_j hP hD hS hl
      obtain ⟨rfl, hI_j⟩ := hI_j
      refine lv_iload_n hx hb kd_M_still_4 rfl (lv_at hl 3 rfl) ?_
      refine lv_aload_n hx hb kd_M_still_5 rfl (lv_at hl 0 rfl) ?_
      refine kx_get (ci := 3) (fs := thisM ad n σ) (v := .int (nI n)) hx hb hw ki_M hown hK hP kM_0 rfl rfl 1 (by decide) kw_242 rfl rfl kd_M_still_6 ?_
      refine lv_icmp_gt (tgt := 93) hx hb kd_M_still_9 (by decide) (fun c_1 => ?_) (fun c_1 => ?_)
      · have hje_j : j = n := lp_endg (by omega) hj_j c_1
        refine lv_iload_n hx hb kd_M_still_93 rfl (lv_at hl 2 rfl) ?_
        exact W.zret (v := x2) hx hb hr (hI_j.elim (fun z => by rw [z.1]; rfl) (fun z => by rw [z.1]; rfl)) (fun t ht hW => ⟨⟨x2, σ, rfl, ⟨by rw [hje_j] at hI_j; exact hI_j, rfl⟩, by rw [ht]; exact hP, va_K.moved hW.alike hK, hD.weaken (fun _ _ _ _ => trivial)⟩, hS.F ht⟩) hS.2.2 kd_M_still_94
      · have hlt_j : j < n := lp_gog (by omega) hj_j c_1
        refine lv_aload_n hx hb kd_M_still_12 rfl (lv_at hl 0 rfl) ?_
        refine kx_get (ci := 3) (fs := thisM ad n σ) (v := .ref (ad (1, 0))) hx hb hw ki_M hown hK hP kM_0 rfl rfl 2 (by decide) kw_243 rfl rfl kd_M_still_13 ?_
        refine lv_iload_n hx hb kd_M_still_16 rfl (lv_at hl 3 rfl) ?_
        refine kx_iald (i := j + 1) hx hb hK hP kM_1 0 rfl rfl rfl (by omega) (by decide) kd_M_still_17 ?_
        refine lv_iconst (v := 2) hx hb kd_M_still_18 (by decide) ?_
        refine lv_icmp_gt (tgt := 50) hx hb kd_M_still_19 (by decide) (fun c_2 => ?_) (fun c_2 => ?_)
        · refine lv_iconst (v := 1) hx hb kd_M_still_50 (by decide) ?_
          refine lv_goto (tgt := 55) hx hb kd_M_still_51 (by decide) ?_
          refine lv_istore (lv' := [(4, .int 1), (0, .ref (ad (0, 0))), (1, .int (nI v)), (2, .int x2), (3, .int (nI (j + 1)))]) hx hb kd_M_still_55 hl (by decide) rfl (fun ls hl => ?_)
          refine lv_iload_n hx hb kd_M_still_57 rfl (lv_at hl 3 rfl) ?_
          refine lv_if_eq (tgt := 85) hx hb kd_M_still_58 (by decide) (fun c_3 => ?_) (fun c_3 => ?_)
          · refine lv_iconst (v := 0) hx hb kd_M_still_85 (by decide) ?_
            refine lv_istore_n (lv' := [(2, .int 0), (4, .int 1), (0, .ref (ad (0, 0))), (1, .int (nI v)), (3, .int (nI (j + 1)))]) hx hb kd_M_still_86 rfl hl (by decide) rfl (fun ls hl => ?_)
            refine lv_iinc (v := nI (j + 1 + 1)) (lv' := [(3, .int (nI (j + 1 + 1))), (2, .int 0), (4, .int 1), (0, .ref (ad (0, 0))), (1, .int (nI v))]) hx hb kd_M_still_87 hl (k := 4) rfl (nI_1 (j + 1)) (by decide) rfl (fun ls hl => ?_)
            refine lv_goto (tgt := 4) hx hb kd_M_still_90 (by decide) ?_
            exact ih_j (j + 1) σ 0 _ _ _ hlt_j (by omega) ⟨rfl, is_n0 hI_j c_3⟩ hP hD hS (lv_sub hl [3, 4, 1, 0] rfl)
          · refine lv_aload_n hx hb kd_M_still_61 rfl (lv_at hl 1 rfl) ?_
            refine lv_iload_n hx hb kd_M_still_62 rfl (lv_at hl 4 rfl) ?_
            refine kx_Si (G := gM n ad cI cZ cL) (σ := σ) (As := [.int (nI (j + 1))]) (rest := [.ref (ad (0, 0))]) (n := 1) hx hb hml hown hts hT (ct_M_bus l D hn ad cI cZ cL σ (by omega) H.size) kw_338 kw_339 kw_5 kw_340 (by decide +kernel) ⟨rfl, rfl⟩ ⟨Nat.le_of_ble_eq_true rfl, Nat.le_of_ble_eq_true rfl⟩ hK hP hD hS rfl hl.1 (Nat.le_of_ble_eq_true rfl) kd_M_still_63 rfl ⟨Nat.zero_le _, Nat.zero_le _⟩ (fun r_4 τ5 H locs hq6 hP hD hS => ?_)
            obtain ⟨rfl, rfl⟩ := hq6
            refine lv_iload_n hx hb kd_M_still_66 rfl (lv_at hl 2 rfl) ?_
            refine kx_Si (G := gM n ad cI cZ cL) (σ := σ) (As := [.int (nI v)]) (rest := [.int (nI ((j + 1 + 7) / 8)), .ref (ad (0, 0))]) (n := 1) hx hb hml hown hts hT (ct_M_bus l D hn ad cI cZ cL σ (by omega) H.size) kw_338 kw_339 kw_5 kw_340 (by decide +kernel) ⟨rfl, rfl⟩ ⟨Nat.le_of_ble_eq_true rfl, Nat.le_of_ble_eq_true rfl⟩ hK hP hD hS rfl hl.1 (Nat.le_of_ble_eq_true rfl) kd_M_still_67 rfl ⟨Nat.zero_le _, Nat.zero_le _⟩ (fun r_7 τ8 H locs hq9 hP hD hS => ?_)
            obtain ⟨rfl, rfl⟩ := hq9
            refine kx_Vi (G := gM n ad cI cZ cL) (σ := σ) (κ := (0, 0)) (ci := 3) (fs := thisM ad n σ) (As := [.int (nI ((j + 1 + 7) / 8)), .int (nI ((v + 7) / 8))]) (rest := []) (n := 2) hx hb hml hown hts hT (ct_M_one l D hn ad cI cZ cL σ (by omega) (by omega) H.size) kw_341 kw_343 ks_22 kw_5 kw_344 (by decide +kernel) ⟨rfl, rfl⟩ ⟨Nat.le_of_ble_eq_true rfl, Nat.le_of_ble_eq_true rfl⟩ hK hP hD hS kM_0 rfl rfl rfl hl.1 (Nat.le_of_ble_eq_true rfl) kd_M_still_70 rfl ⟨Nat.zero_le _, Nat.zero_le _⟩ (fun r_10 τ11 H locs hq12 hP hD hS => ?_)
            obtain ⟨⟨rfl, q_13⟩ | ⟨rfl, q_13⟩, rfl⟩ := hq12
            · refine lv_if_eq (tgt := 81) hx hb kd_M_still_73 (by decide) (fun c0 => absurd c0 (by decide)) (fun _ => ?_)
              refine lv_iload hx hb kd_M_still_76 (lv_at hl 0 rfl) ?_
              refine lv_if_ne (tgt := 85) hx hb kd_M_still_78 (by decide) (fun _ => ?_) (fun c0 => absurd c0 (by decide))
              refine lv_iconst (v := 0) hx hb kd_M_still_85 (by decide) ?_
              refine lv_istore_n (lv' := [(2, .int 0), (4, .int 1), (0, .ref (ad (0, 0))), (1, .int (nI v)), (3, .int (nI (j + 1)))]) hx hb kd_M_still_86 rfl hl (by decide) rfl (fun ls hl => ?_)
              refine lv_iinc (v := nI (j + 1 + 1)) (lv' := [(3, .int (nI (j + 1 + 1))), (2, .int 0), (4, .int 1), (0, .ref (ad (0, 0))), (1, .int (nI v))]) hx hb kd_M_still_87 hl (k := 4) rfl (nI_1 (j + 1)) (by decide) rfl (fun ls hl => ?_)
              refine lv_goto (tgt := 4) hx hb kd_M_still_90 (by decide) ?_
              exact ih_j (j + 1) σ 0 _ _ _ hlt_j (by omega) ⟨rfl, is_n1 (fun z => z ⟨q_13, (Or.inl c_2)⟩)⟩ hP hD hS (lv_sub hl [3, 4, 1, 0] rfl)
            · refine lv_if_eq (tgt := 81) hx hb kd_M_still_73 (by decide) (fun _ => ?_) (fun c0 => absurd (by decide) c0)
              refine lv_iconst (v := 1) hx hb kd_M_still_81 (by decide) ?_
              refine lv_goto (tgt := 86) hx hb kd_M_still_82 (by decide) ?_
              refine lv_istore_n (lv' := [(2, .int 1), (4, .int 1), (0, .ref (ad (0, 0))), (1, .int (nI v)), (3, .int (nI (j + 1)))]) hx hb kd_M_still_86 rfl hl (by decide) rfl (fun ls hl => ?_)
              refine lv_iinc (v := nI (j + 1 + 1)) (lv' := [(3, .int (nI (j + 1 + 1))), (2, .int 1), (4, .int 1), (0, .ref (ad (0, 0))), (1, .int (nI v))]) hx hb kd_M_still_87 hl (k := 4) rfl (nI_1 (j + 1)) (by decide) rfl (fun ls hl => ?_)
              refine lv_goto (tgt := 4) hx hb kd_M_still_90 (by decide) ?_
              exact ih_j (j + 1) σ 1 _ _ _ hlt_j (by omega) ⟨rfl, is_y hI_j c_3 (fun z => q_13 z.1)⟩ hP hD hS (lv_sub hl [3, 4, 1, 0] rfl)
        · refine lv_aload_n hx hb kd_M_still_22 rfl (lv_at hl 0 rfl) ?_
          refine kx_get (ci := 3) (fs := thisM ad n σ) (v := .ref (ad (1, 0))) hx hb hw ki_M hown hK hP kM_0 rfl rfl 2 (by decide) kw_243 rfl rfl kd_M_still_23 ?_
          refine lv_iload_n hx hb kd_M_still_26 rfl (lv_at hl 3 rfl) ?_
          refine kx_iald (i := j + 1) hx hb hK hP kM_1 0 rfl rfl rfl (by omega) (by decide) kd_M_still_27 ?_
          refine lv_iconst (v := 2) hx hb kd_M_still_28 (by decide) ?_
          refine lv_icmp_ne (tgt := 54) hx hb kd_M_still_29 (by decide) (fun c_14 => ?_) (fun c_14 => ?_)
          · refine lv_iconst (v := 0) hx hb kd_M_still_54 (by decide) ?_
            refine lv_istore (lv' := [(4, .int 0), (0, .ref (ad (0, 0))), (1, .int (nI v)), (2, .int x2), (3, .int (nI (j + 1)))]) hx hb kd_M_still_55 hl (by decide) rfl (fun ls hl => ?_)
            refine lv_iload_n hx hb kd_M_still_57 rfl (lv_at hl 3 rfl) ?_
            refine lv_if_eq (tgt := 85) hx hb kd_M_still_58 (by decide) (fun c_15 => ?_) (fun c_15 => ?_)
            · refine lv_iconst (v := 0) hx hb kd_M_still_85 (by decide) ?_
              refine lv_istore_n (lv' := [(2, .int 0), (4, .int 0), (0, .ref (ad (0, 0))), (1, .int (nI v)), (3, .int (nI (j + 1)))]) hx hb kd_M_still_86 rfl hl (by decide) rfl (fun ls hl => ?_)
              refine lv_iinc (v := nI (j + 1 + 1)) (lv' := [(3, .int (nI (j + 1 + 1))), (2, .int 0), (4, .int 0), (0, .ref (ad (0, 0))), (1, .int (nI v))]) hx hb kd_M_still_87 hl (k := 4) rfl (nI_1 (j + 1)) (by decide) rfl (fun ls hl => ?_)
              refine lv_goto (tgt := 4) hx hb kd_M_still_90 (by decide) ?_
              exact ih_j (j + 1) σ 0 _ _ _ hlt_j (by omega) ⟨rfl, is_n0 hI_j c_15⟩ hP hD hS (lv_sub hl [3, 4, 1, 0] rfl)
            · refine lv_aload_n hx hb kd_M_still_61 rfl (lv_at hl 1 rfl) ?_
              refine lv_iload_n hx hb kd_M_still_62 rfl (lv_at hl 4 rfl) ?_
              refine kx_Si (G := gM n ad cI cZ cL) (σ := σ) (As := [.int (nI (j + 1))]) (rest := [.ref (ad (0, 0))]) (n := 1) hx hb hml hown hts hT (ct_M_bus l D hn ad cI cZ cL σ (by omega) H.size) kw_338 kw_339 kw_5 kw_340 (by decide +kernel) ⟨rfl, rfl⟩ ⟨Nat.le_of_ble_eq_true rfl, Nat.le_of_ble_eq_true rfl⟩ hK hP hD hS rfl hl.1 (Nat.le_of_ble_eq_true rfl) kd_M_still_63 rfl ⟨Nat.zero_le _, Nat.zero_le _⟩ (fun r_16 τ17 H locs hq18 hP hD hS => ?_)
              obtain ⟨rfl, rfl⟩ := hq18
              refine lv_iload_n hx hb kd_M_still_66 rfl (lv_at hl 2 rfl) ?_
              refine kx_Si (G := gM n ad cI cZ cL) (σ := σ) (As := [.int (nI v)]) (rest := [.int (nI ((j + 1 + 7) / 8)), .ref (ad (0, 0))]) (n := 1) hx hb hml hown hts hT (ct_M_bus l D hn ad cI cZ cL σ (by omega) H.size) kw_338 kw_339 kw_5 kw_340 (by decide +kernel) ⟨rfl, rfl⟩ ⟨Nat.le_of_ble_eq_true rfl, Nat.le_of_ble_eq_true rfl⟩ hK hP hD hS rfl hl.1 (Nat.le_of_ble_eq_true rfl) kd_M_still_67 rfl ⟨Nat.zero_le _, Nat.zero_le _⟩ (fun r_19 τ20 H locs hq21 hP hD hS => ?_)
              obtain ⟨rfl, rfl⟩ := hq21
              refine kx_Vi (G := gM n ad cI cZ cL) (σ := σ) (κ := (0, 0)) (ci := 3) (fs := thisM ad n σ) (As := [.int (nI ((j + 1 + 7) / 8)), .int (nI ((v + 7) / 8))]) (rest := []) (n := 2) hx hb hml hown hts hT (ct_M_one l D hn ad cI cZ cL σ (by omega) (by omega) H.size) kw_341 kw_343 ks_22 kw_5 kw_344 (by decide +kernel) ⟨rfl, rfl⟩ ⟨Nat.le_of_ble_eq_true rfl, Nat.le_of_ble_eq_true rfl⟩ hK hP hD hS kM_0 rfl rfl rfl hl.1 (Nat.le_of_ble_eq_true rfl) kd_M_still_70 rfl ⟨Nat.zero_le _, Nat.zero_le _⟩ (fun r_22 τ23 H locs hq24 hP hD hS => ?_)
              obtain ⟨⟨rfl, q_25⟩ | ⟨rfl, q_25⟩, rfl⟩ := hq24
              · refine lv_if_eq (tgt := 81) hx hb kd_M_still_73 (by decide) (fun c0 => absurd c0 (by decide)) (fun _ => ?_)
                refine lv_iload hx hb kd_M_still_76 (lv_at hl 0 rfl) ?_
                refine lv_if_ne (tgt := 85) hx hb kd_M_still_78 (by decide) (fun c0 => absurd rfl c0) (fun _ => ?_)
                refine lv_iconst (v := 1) hx hb kd_M_still_81 (by decide) ?_
                refine lv_goto (tgt := 86) hx hb kd_M_still_82 (by decide) ?_
                refine lv_istore_n (lv' := [(2, .int 1), (4, .int 0), (0, .ref (ad (0, 0))), (1, .int (nI v)), (3, .int (nI (j + 1)))]) hx hb kd_M_still_86 rfl hl (by decide) rfl (fun ls hl => ?_)
                refine lv_iinc (v := nI (j + 1 + 1)) (lv' := [(3, .int (nI (j + 1 + 1))), (2, .int 1), (4, .int 0), (0, .ref (ad (0, 0))), (1, .int (nI v))]) hx hb kd_M_still_87 hl (k := 4) rfl (nI_1 (j + 1)) (by decide) rfl (fun ls hl => ?_)
                refine lv_goto (tgt := 4) hx hb kd_M_still_90 (by decide) ?_
                exact ih_j (j + 1) σ 1 _ _ _ hlt_j (by omega) ⟨rfl, is_y hI_j c_15 (fun z => (fun z => z.elim c_2 (fun y => c_14 y.1)) z.2)⟩ hP hD hS (lv_sub hl [3, 4, 1, 0] rfl)
              · refine lv_if_eq (tgt := 81) hx hb kd_M_still_73 (by decide) (fun _ => ?_) (fun c0 => absurd (by decide) c0)
                refine lv_iconst (v := 1) hx hb kd_M_still_81 (by decide) ?_
                refine lv_goto (tgt := 86) hx hb kd_M_still_82 (by decide) ?_
                refine lv_istore_n (lv' := [(2, .int 1), (4, .int 0), (0, .ref (ad (0, 0))), (1, .int (nI v)), (3, .int (nI (j + 1)))]) hx hb kd_M_still_86 rfl hl (by decide) rfl (fun ls hl => ?_)
                refine lv_iinc (v := nI (j + 1 + 1)) (lv' := [(3, .int (nI (j + 1 + 1))), (2, .int 1), (4, .int 0), (0, .ref (ad (0, 0))), (1, .int (nI v))]) hx hb kd_M_still_87 hl (k := 4) rfl (nI_1 (j + 1)) (by decide) rfl (fun ls hl => ?_)
                refine lv_goto (tgt := 4) hx hb kd_M_still_90 (by decide) ?_
                exact ih_j (j + 1) σ 1 _ _ _ hlt_j (by omega) ⟨rfl, is_y hI_j c_15 (fun z => q_25 z.1)⟩ hP hD hS (lv_sub hl [3, 4, 1, 0] rfl)
          · refine lv_aload_n hx hb kd_M_still_32 rfl (lv_at hl 0 rfl) ?_
            refine kx_get (ci := 3) (fs := thisM ad n σ) (v := .long σ.2.2.2.2.1) hx hb hw ki_M hown hK hP kM_0 rfl rfl 15 (by decide) kw_256 rfl rfl kd_M_still_33 ?_
            refine lv_aload_n hx hb kd_M_still_36 rfl (lv_at hl 0 rfl) ?_
            refine kx_get (ci := 3) (fs := thisM ad n σ) (v := .ref (ad (7, 0))) hx hb hw ki_M hown hK hP kM_0 rfl rfl 8 (by decide) kw_249 rfl rfl kd_M_still_37 ?_
            refine lv_iload_n hx hb kd_M_still_40 rfl (lv_at hl 3 rfl) ?_
            refine kx_lald (i := j + 1) hx hb hK hP kM_7 2 rfl rfl rfl (by omega) (by decide) kd_M_still_41 ?_
            refine lv_lsub hx hb kd_M_still_42 ?_
            refine lv_ldc2 (v := 10) hx hb hown (hw _ kw_337) kd_M_still_43 ?_
            refine W.lcmp hx hb kd_M_still_46 ?_
            refine lv_if_ge (tgt := 54) hx hb kd_M_still_47 (by decide) (fun c_26 => ?_) (fun c_26 => ?_)
            · have c_26 := (lg_cmp_ge _ _).mp c_26
              refine lv_iconst (v := 0) hx hb kd_M_still_54 (by decide) ?_
              refine lv_istore (lv' := [(4, .int 0), (0, .ref (ad (0, 0))), (1, .int (nI v)), (2, .int x2), (3, .int (nI (j + 1)))]) hx hb kd_M_still_55 hl (by decide) rfl (fun ls hl => ?_)
              refine lv_iload_n hx hb kd_M_still_57 rfl (lv_at hl 3 rfl) ?_
              refine lv_if_eq (tgt := 85) hx hb kd_M_still_58 (by decide) (fun c_27 => ?_) (fun c_27 => ?_)
              · refine lv_iconst (v := 0) hx hb kd_M_still_85 (by decide) ?_
                refine lv_istore_n (lv' := [(2, .int 0), (4, .int 0), (0, .ref (ad (0, 0))), (1, .int (nI v)), (3, .int (nI (j + 1)))]) hx hb kd_M_still_86 rfl hl (by decide) rfl (fun ls hl => ?_)
                refine lv_iinc (v := nI (j + 1 + 1)) (lv' := [(3, .int (nI (j + 1 + 1))), (2, .int 0), (4, .int 0), (0, .ref (ad (0, 0))), (1, .int (nI v))]) hx hb kd_M_still_87 hl (k := 4) rfl (nI_1 (j + 1)) (by decide) rfl (fun ls hl => ?_)
                refine lv_goto (tgt := 4) hx hb kd_M_still_90 (by decide) ?_
                exact ih_j (j + 1) σ 0 _ _ _ hlt_j (by omega) ⟨rfl, is_n0 hI_j c_27⟩ hP hD hS (lv_sub hl [3, 4, 1, 0] rfl)
              · refine lv_aload_n hx hb kd_M_still_61 rfl (lv_at hl 1 rfl) ?_
                refine lv_iload_n hx hb kd_M_still_62 rfl (lv_at hl 4 rfl) ?_
                refine kx_Si (G := gM n ad cI cZ cL) (σ := σ) (As := [.int (nI (j + 1))]) (rest := [.ref (ad (0, 0))]) (n := 1) hx hb hml hown hts hT (ct_M_bus l D hn ad cI cZ cL σ (by omega) H.size) kw_338 kw_339 kw_5 kw_340 (by decide +kernel) ⟨rfl, rfl⟩ ⟨Nat.le_of_ble_eq_true rfl, Nat.le_of_ble_eq_true rfl⟩ hK hP hD hS rfl hl.1 (Nat.le_of_ble_eq_true rfl) kd_M_still_63 rfl ⟨Nat.zero_le _, Nat.zero_le _⟩ (fun r_28 τ29 H locs hq30 hP hD hS => ?_)
                obtain ⟨rfl, rfl⟩ := hq30
                refine lv_iload_n hx hb kd_M_still_66 rfl (lv_at hl 2 rfl) ?_
                refine kx_Si (G := gM n ad cI cZ cL) (σ := σ) (As := [.int (nI v)]) (rest := [.int (nI ((j + 1 + 7) / 8)), .ref (ad (0, 0))]) (n := 1) hx hb hml hown hts hT (ct_M_bus l D hn ad cI cZ cL σ (by omega) H.size) kw_338 kw_339 kw_5 kw_340 (by decide +kernel) ⟨rfl, rfl⟩ ⟨Nat.le_of_ble_eq_true rfl, Nat.le_of_ble_eq_true rfl⟩ hK hP hD hS rfl hl.1 (Nat.le_of_ble_eq_true rfl) kd_M_still_67 rfl ⟨Nat.zero_le _, Nat.zero_le _⟩ (fun r_31 τ32 H locs hq33 hP hD hS => ?_)
                obtain ⟨rfl, rfl⟩ := hq33
                refine kx_Vi (G := gM n ad cI cZ cL) (σ := σ) (κ := (0, 0)) (ci := 3) (fs := thisM ad n σ) (As := [.int (nI ((j + 1 + 7) / 8)), .int (nI ((v + 7) / 8))]) (rest := []) (n := 2) hx hb hml hown hts hT (ct_M_one l D hn ad cI cZ cL σ (by omega) (by omega) H.size) kw_341 kw_343 ks_22 kw_5 kw_344 (by decide +kernel) ⟨rfl, rfl⟩ ⟨Nat.le_of_ble_eq_true rfl, Nat.le_of_ble_eq_true rfl⟩ hK hP hD hS kM_0 rfl rfl rfl hl.1 (Nat.le_of_ble_eq_true rfl) kd_M_still_70 rfl ⟨Nat.zero_le _, Nat.zero_le _⟩ (fun r_34 τ35 H locs hq36 hP hD hS => ?_)
                obtain ⟨⟨rfl, q_37⟩ | ⟨rfl, q_37⟩, rfl⟩ := hq36
                · refine lv_if_eq (tgt := 81) hx hb kd_M_still_73 (by decide) (fun c0 => absurd c0 (by decide)) (fun _ => ?_)
                  refine lv_iload hx hb kd_M_still_76 (lv_at hl 0 rfl) ?_
                  refine lv_if_ne (tgt := 85) hx hb kd_M_still_78 (by decide) (fun c0 => absurd rfl c0) (fun _ => ?_)
                  refine lv_iconst (v := 1) hx hb kd_M_still_81 (by decide) ?_
                  refine lv_goto (tgt := 86) hx hb kd_M_still_82 (by decide) ?_
                  refine lv_istore_n (lv' := [(2, .int 1), (4, .int 0), (0, .ref (ad (0, 0))), (1, .int (nI v)), (3, .int (nI (j + 1)))]) hx hb kd_M_still_86 rfl hl (by decide) rfl (fun ls hl => ?_)
                  refine lv_iinc (v := nI (j + 1 + 1)) (lv' := [(3, .int (nI (j + 1 + 1))), (2, .int 1), (4, .int 0), (0, .ref (ad (0, 0))), (1, .int (nI v))]) hx hb kd_M_still_87 hl (k := 4) rfl (nI_1 (j + 1)) (by decide) rfl (fun ls hl => ?_)
                  refine lv_goto (tgt := 4) hx hb kd_M_still_90 (by decide) ?_
                  exact ih_j (j + 1) σ 1 _ _ _ hlt_j (by omega) ⟨rfl, is_y hI_j c_27 (fun z => (fun z => z.elim c_2 (fun y => y.2 c_26)) z.2)⟩ hP hD hS (lv_sub hl [3, 4, 1, 0] rfl)
                · refine lv_if_eq (tgt := 81) hx hb kd_M_still_73 (by decide) (fun _ => ?_) (fun c0 => absurd (by decide) c0)
                  refine lv_iconst (v := 1) hx hb kd_M_still_81 (by decide) ?_
                  refine lv_goto (tgt := 86) hx hb kd_M_still_82 (by decide) ?_
                  refine lv_istore_n (lv' := [(2, .int 1), (4, .int 0), (0, .ref (ad (0, 0))), (1, .int (nI v)), (3, .int (nI (j + 1)))]) hx hb kd_M_still_86 rfl hl (by decide) rfl (fun ls hl => ?_)
                  refine lv_iinc (v := nI (j + 1 + 1)) (lv' := [(3, .int (nI (j + 1 + 1))), (2, .int 1), (4, .int 0), (0, .ref (ad (0, 0))), (1, .int (nI v))]) hx hb kd_M_still_87 hl (k := 4) rfl (nI_1 (j + 1)) (by decide) rfl (fun ls hl => ?_)
                  refine lv_goto (tgt := 4) hx hb kd_M_still_90 (by decide) ?_
                  exact ih_j (j + 1) σ 1 _ _ _ hlt_j (by omega) ⟨rfl, is_y hI_j c_27 (fun z => q_37 z.1)⟩ hP hD hS (lv_sub hl [3, 4, 1, 0] rfl)
            · have c_26 := fun h => c_26 ((lg_cmp_ge _ _).mpr h)
              refine lv_iconst (v := 1) hx hb kd_M_still_50 (by decide) ?_
              refine lv_goto (tgt := 55) hx hb kd_M_still_51 (by decide) ?_
              refine lv_istore (lv' := [(4, .int 1), (0, .ref (ad (0, 0))), (1, .int (nI v)), (2, .int x2), (3, .int (nI (j + 1)))]) hx hb kd_M_still_55 hl (by decide) rfl (fun ls hl => ?_)
              refine lv_iload_n hx hb kd_M_still_57 rfl (lv_at hl 3 rfl) ?_
              refine lv_if_eq (tgt := 85) hx hb kd_M_still_58 (by decide) (fun c_38 => ?_) (fun c_38 => ?_)
              · refine lv_iconst (v := 0) hx hb kd_M_still_85 (by decide) ?_
                refine lv_istore_n (lv' := [(2, .int 0), (4, .int 1), (0, .ref (ad (0, 0))), (1, .int (nI v)), (3, .int (nI (j + 1)))]) hx hb kd_M_still_86 rfl hl (by decide) rfl (fun ls hl => ?_)
                refine lv_iinc (v := nI (j + 1 + 1)) (lv' := [(3, .int (nI (j + 1 + 1))), (2, .int 0), (4, .int 1), (0, .ref (ad (0, 0))), (1, .int (nI v))]) hx hb kd_M_still_87 hl (k := 4) rfl (nI_1 (j + 1)) (by decide) rfl (fun ls hl => ?_)
                refine lv_goto (tgt := 4) hx hb kd_M_still_90 (by decide) ?_
                exact ih_j (j + 1) σ 0 _ _ _ hlt_j (by omega) ⟨rfl, is_n0 hI_j c_38⟩ hP hD hS (lv_sub hl [3, 4, 1, 0] rfl)
              · refine lv_aload_n hx hb kd_M_still_61 rfl (lv_at hl 1 rfl) ?_
                refine lv_iload_n hx hb kd_M_still_62 rfl (lv_at hl 4 rfl) ?_
                refine kx_Si (G := gM n ad cI cZ cL) (σ := σ) (As := [.int (nI (j + 1))]) (rest := [.ref (ad (0, 0))]) (n := 1) hx hb hml hown hts hT (ct_M_bus l D hn ad cI cZ cL σ (by omega) H.size) kw_338 kw_339 kw_5 kw_340 (by decide +kernel) ⟨rfl, rfl⟩ ⟨Nat.le_of_ble_eq_true rfl, Nat.le_of_ble_eq_true rfl⟩ hK hP hD hS rfl hl.1 (Nat.le_of_ble_eq_true rfl) kd_M_still_63 rfl ⟨Nat.zero_le _, Nat.zero_le _⟩ (fun r_39 τ40 H locs hq41 hP hD hS => ?_)
                obtain ⟨rfl, rfl⟩ := hq41
                refine lv_iload_n hx hb kd_M_still_66 rfl (lv_at hl 2 rfl) ?_
                refine kx_Si (G := gM n ad cI cZ cL) (σ := σ) (As := [.int (nI v)]) (rest := [.int (nI ((j + 1 + 7) / 8)), .ref (ad (0, 0))]) (n := 1) hx hb hml hown hts hT (ct_M_bus l D hn ad cI cZ cL σ (by omega) H.size) kw_338 kw_339 kw_5 kw_340 (by decide +kernel) ⟨rfl, rfl⟩ ⟨Nat.le_of_ble_eq_true rfl, Nat.le_of_ble_eq_true rfl⟩ hK hP hD hS rfl hl.1 (Nat.le_of_ble_eq_true rfl) kd_M_still_67 rfl ⟨Nat.zero_le _, Nat.zero_le _⟩ (fun r_42 τ43 H locs hq44 hP hD hS => ?_)
                obtain ⟨rfl, rfl⟩ := hq44
                refine kx_Vi (G := gM n ad cI cZ cL) (σ := σ) (κ := (0, 0)) (ci := 3) (fs := thisM ad n σ) (As := [.int (nI ((j + 1 + 7) / 8)), .int (nI ((v + 7) / 8))]) (rest := []) (n := 2) hx hb hml hown hts hT (ct_M_one l D hn ad cI cZ cL σ (by omega) (by omega) H.size) kw_341 kw_343 ks_22 kw_5 kw_344 (by decide +kernel) ⟨rfl, rfl⟩ ⟨Nat.le_of_ble_eq_true rfl, Nat.le_of_ble_eq_true rfl⟩ hK hP hD hS kM_0 rfl rfl rfl hl.1 (Nat.le_of_ble_eq_true rfl) kd_M_still_70 rfl ⟨Nat.zero_le _, Nat.zero_le _⟩ (fun r_45 τ46 H locs hq47 hP hD hS => ?_)
                obtain ⟨⟨rfl, q_48⟩ | ⟨rfl, q_48⟩, rfl⟩ := hq47
                · refine lv_if_eq (tgt := 81) hx hb kd_M_still_73 (by decide) (fun c0 => absurd c0 (by decide)) (fun _ => ?_)
                  refine lv_iload hx hb kd_M_still_76 (lv_at hl 0 rfl) ?_
                  refine lv_if_ne (tgt := 85) hx hb kd_M_still_78 (by decide) (fun _ => ?_) (fun c0 => absurd c0 (by decide))
                  refine lv_iconst (v := 0) hx hb kd_M_still_85 (by decide) ?_
                  refine lv_istore_n (lv' := [(2, .int 0), (4, .int 1), (0, .ref (ad (0, 0))), (1, .int (nI v)), (3, .int (nI (j + 1)))]) hx hb kd_M_still_86 rfl hl (by decide) rfl (fun ls hl => ?_)
                  refine lv_iinc (v := nI (j + 1 + 1)) (lv' := [(3, .int (nI (j + 1 + 1))), (2, .int 0), (4, .int 1), (0, .ref (ad (0, 0))), (1, .int (nI v))]) hx hb kd_M_still_87 hl (k := 4) rfl (nI_1 (j + 1)) (by decide) rfl (fun ls hl => ?_)
                  refine lv_goto (tgt := 4) hx hb kd_M_still_90 (by decide) ?_
                  exact ih_j (j + 1) σ 0 _ _ _ hlt_j (by omega) ⟨rfl, is_n1 (fun z => z ⟨q_48, (Or.inr ⟨c_14, c_26⟩)⟩)⟩ hP hD hS (lv_sub hl [3, 4, 1, 0] rfl)
                · refine lv_if_eq (tgt := 81) hx hb kd_M_still_73 (by decide) (fun _ => ?_) (fun c0 => absurd (by decide) c0)
                  refine lv_iconst (v := 1) hx hb kd_M_still_81 (by decide) ?_
                  refine lv_goto (tgt := 86) hx hb kd_M_still_82 (by decide) ?_
                  refine lv_istore_n (lv' := [(2, .int 1), (4, .int 1), (0, .ref (ad (0, 0))), (1, .int (nI v)), (3, .int (nI (j + 1)))]) hx hb kd_M_still_86 rfl hl (by decide) rfl (fun ls hl => ?_)
                  refine lv_iinc (v := nI (j + 1 + 1)) (lv' := [(3, .int (nI (j + 1 + 1))), (2, .int 1), (4, .int 1), (0, .ref (ad (0, 0))), (1, .int (nI v))]) hx hb kd_M_still_87 hl (k := 4) rfl (nI_1 (j + 1)) (by decide) rfl (fun ls hl => ?_)
                  refine lv_goto (tgt := 4) hx hb kd_M_still_90 (by decide) ?_
                  exact ih_j (j + 1) σ 1 _ _ _ hlt_j (by omega) ⟨rfl, is_y hI_j c_38 (fun z => q_48 z.1)⟩ hP hD hS (lv_sub hl [3, 4, 1, 0] rfl)
  exact loop (n + 1) 0 σ 1 _ _ _ (Nat.zero_le _) (by omega) ⟨rfl, Or.inl ⟨rfl, lt_0⟩⟩ hP hD hS (lv_sub hl [2, 3, 1, 0] rfl)
def mChS (n : Nat) (σ : MS) (v : Nat) : MS :=
  let c152 : MS := if (σ.1 v).1 = 1 then (if σ.2.2.2.2.1 - (σ.1 v).2.2.2.2.2.1 < 5 then σ else mBec σ v 0) else σ
  let c125 : MS := if (σ.1 v).1 = 2 then (if stlM n σ v then mBec σ v 1 else c152) else c152
  let c98 : MS := if (σ.1 v).1 = 2 then (if mWn (σ.1 v) then mBec σ v 3 else c125) else c125
  let c71 : MS := if (σ.1 v).1 = 3 then (if mWn (σ.1 v) then c98 else mBec σ v 2) else c98
  if (σ.1 v).1 = 4 then (if σ.2.2.2.2.1 - (σ.1 v).2.2.2.2.2.1 < 20 then c71 else if mWn (σ.1 v) then mBec σ v 3 else mBec σ v 2) else c71
def mChA (n : Nat) (σ : MS) : Nat → MS
  | 0 => σ
  | k + 1 => mChS n (mChA n σ k) (k + 1)
def mSnd (n : Nat) (σ : MS) (v : Nat) : MS :=
  let s1 : MS := setM σ v ((σ.1 v).1, (σ.1 v).2.1, (σ.1 v).2.2.1, (σ.1 v).2.2.2.1, (σ.1 v).2.2.2.2.1, (σ.1 v).2.2.2.2.2.1, (σ.1 v).2.2.2.2.2.2.1, σ.2.2.2.2.1, (σ.1 v).2.2.2.2.2.2.2.2.1, (σ.1 v).2.2.2.2.2.2.2.2.2)
  let s2 : MS := setM s1 v ((s1.1 v).1, (s1.1 v).2.1, (s1.1 v).2.2.1, (s1.1 v).2.2.2.1, (s1.1 v).2.2.2.2.1, (s1.1 v).2.2.2.2.2.1, (s1.1 v).2.2.2.2.2.2.1, (s1.1 v).2.2.2.2.2.2.2.1, 0, (s1.1 v).2.2.2.2.2.2.2.2.2)
  mRwS n s2 v
def mSdS (n : Nat) (σ : MS) (v : Nat) : MS :=
  if (σ.1 v).2.2.2.2.2.2.2.2.1 = 0 then (if σ.2.2.2.2.1 - (σ.1 v).2.2.2.2.2.2.2.1 < 3 then σ else if (σ.1 v).1 ≤ 2 then σ else if (σ.1 v).2.2.1 = 0 then mSnd n σ v else σ)
  else (if σ.2.2.2.2.1 ≤ (σ.1 v).2.2.2.2.2.2.2.2.2 then σ else if (σ.1 v).1 ≤ 2 then σ else if (σ.1 v).2.2.1 = 0 then mSnd n σ v else σ)
def mSdA (n : Nat) (σ : MS) : Nat → MS
  | 0 => σ
  | k + 1 => mSdS n (mSdA n σ k) (k + 1)
def mT1 (σ : MS) : MS := (σ.1, σ.2.1, σ.2.2.1, σ.2.2.2.1, σ.2.2.2.2.1 + 1, σ.2.2.2.2.2.1, σ.2.2.2.2.2.2)
def mTk (n : Nat) (σ : MS) : MS := mSdA n (mChA n (mT1 σ) n) n
set_option maxHeartbeats 4000000 in
set_option maxRecDepth 100000 in
theorem ct_M_oneTick (l : Launch) (D : va_G) {n : Nat} (hn : 1 ≤ n ∧ n ≤ 64) (ad : Nat × Nat → Nat) (cI cZ cL : ClassId) (σ : MS)  (sz : Nat) : Met l ky_M_oneTick (km ky_M_oneTick kc_M_oneTick 4 none) ({ frames := 3, cells := 0, slots := 0, locals := 66 }) (mPre D n ad cI cZ cL σ [.ref (ad (0, 0))] sz) (mQv D n ad cI cZ cL sz (fun τ => mTk n σ = τ)) 0 0 (kA (kM) ad sz) := by
  refine Met.ofW (cc := kc_M_oneTick) (maxL := 4) (ret := none) (by decide) rfl ?_
  intro p e s m args below meth c s₁ B hml hv
  obtain ⟨rfl, hsz, hP, hK, hD0⟩ := hv
  have hx := B.exec
  have hb := B.bytes
  have hr := B.returns
  have hts := atoms_spec (ws := km ky_M_oneTick kc_M_oneTick 4 none) B.pre
  have hT : ∀ w ∈ kB_l, w ∈ km ky_M_oneTick kc_M_oneTick 4 none := fun w h => List.mem_cons_of_mem _ h
  have hw := fun w h => hts w (hT w h)
  have hown : s.vm.findClass kR_M = some m.cls := findClass_of_methodNamed B.named
  have hlocks := B.notSynchronized
  subst hsz
  have hD : va_D (kA (kM) ad s.heap.size) (kW (kM) ad (gM n ad cI cZ cL σ)) := kD_any _ hD0
  have hS : va_S (kA (kM) ad s.heap.size) s.heap s.heap [] := va_S.rf
  have hl := lv_entry ([.ref (ad (0, 0))]) (n := 4) (Nat.le_of_ble_eq_true rfl)
  rw [lg_entry_eq]
  generalize (lg_sl ([.ref (ad (0, 0))]) ++ List.replicate (4 - (lg_sl ([.ref (ad (0, 0))])).length) Slot.unset).toArray = ls at hl ⊢
  have hl : lv_has ls 4 [(0, .ref (ad (0, 0)))] := hl
  refine lv_aload_n hx hb kd_M_oneTick_0 rfl (lv_at hl 0 rfl) ?_
  refine lv_dup hx hb kd_M_oneTick_1 rfl ?_
  refine kx_get (ci := 3) (fs := thisM ad n σ) (v := .long σ.2.2.2.2.1) hx hb hw ki_M hown hK hP kM_0 rfl rfl 15 (by decide) kw_256 rfl rfl kd_M_oneTick_2 ?_
  refine lv_lconst (v := 1) hx hb kd_M_oneTick_5 (by decide) ?_
  refine lv_ladd hx hb kd_M_oneTick_6 ?_
  refine kx_put (ci := 3) (fs := thisM ad n σ) (v := .long (σ.2.2.2.2.1 + 1)) (g2 := gM n ad cI cZ cL (σ.1, σ.2.1, σ.2.2.1, σ.2.2.2.1, σ.2.2.2.2.1 + 1, σ.2.2.2.2.2.1, σ.2.2.2.2.2.2)) hx hb hw ki_M kt_M ko_M kn_M hown hK hP hD hS kM_0 rfl rfl 15 (by decide) kw_256 rfl rfl rfl rfl (Nat.le_of_ble_eq_true rfl) (gM_S rfl) kd_M_oneTick_7 (fun H locs hP hD hS => ?_)
  generalize hτ1 : ((σ.1, σ.2.1, σ.2.2.1, σ.2.2.2.1, σ.2.2.2.2.1 + 1, σ.2.2.2.2.2.1, σ.2.2.2.2.2.2) : MS) = τ1 at hP hD
  refine lv_iconst (v := 1) hx hb kd_M_oneTick_10 (by decide) ?_
  refine lv_istore_n (lv' := [(1, .int 1), (0, .ref (ad (0, 0)))]) hx hb kd_M_oneTick_11 rfl hl (by decide) rfl (fun ls hl => ?_)
  have loop : ∀ (q j : Nat) (ρj : MS)  (H : Heap) (locs : List Loc) (ls : Array Slot), j ≤ n → n < j + q → (ρj = mChA n (mT1 σ) j) → va_P D kCl (kW (kM) ad (gM n ad cI cZ cL ρj)) H → va_D (kA (kM) ad s.heap.size) (kW (kM) ad (gM n ad cI cZ cL ρj)) → va_S (kA (kM) ad s.heap.size) s.heap H locs → lv_has ls 4 [(0, .ref (ad (0, 0))), (1, .int (nI (j + 1)))] → W p l e (headSpec (km ky_M_oneTick kc_M_oneTick 4 none) ({ frames := 3, cells := 0, slots := 0, locals := 66 })).room s m [.ref (ad (0, 0))].toArray below meth c H locs 0 0 (MQ below (mQv D n ad cI cZ cL s.heap.size (fun τ => mTk n σ = τ)) [.ref (ad (0, 0))].toArray s 0 0 (kA (kM) ad s.heap.size)) (F0 m 12 ls []) := by
    intro q
    induction q with
    | zero => intro j ρj  H locs ls hj_j hq_j; exact absurd hq_j (by omega)
    | succ q ih_j =>
      intro j ρj  H locs ls hj_j hq_j hI_j hP hD hS hl
      refine lv_iload_n hx hb kd_M_oneTick_12 rfl (lv_at hl 1 rfl) ?_
      refine lv_aload_n hx hb kd_M_oneTick_13 rfl (lv_at hl 0 rfl) ?_
      refine kx_get (ci := 3) (fs := thisM ad n ρj) (v := .int (nI n)) hx hb hw ki_M hown hK hP kM_0 rfl rfl 1 (by decide) kw_242 rfl rfl kd_M_oneTick_14 ?_
      refine lv_icmp_gt (tgt := 182) hx hb kd_M_oneTick_17 (by decide) (fun c_2 => ?_) (fun c_2 => ?_)
      · have hje_j : j = n := lp_endg (by omega) hj_j c_2
        refine lv_iconst (v := 1) hx hb kd_M_oneTick_182 (by decide) ?_
        refine lv_istore_n (lv' := [(1, .int 1), (0, .ref (ad (0, 0)))]) hx hb kd_M_oneTick_183 rfl hl (by decide) rfl (fun ls hl => ?_)
        have loop2 : ∀ (q k : Nat) (ρk : MS)  (H : Heap) (locs : List Loc) (ls : Array Slot), k ≤ n → n < k + q → (ρk = mSdA n (mChA n (mT1 σ) n) k) → va_P D kCl (kW (kM) ad (gM n ad cI cZ cL ρk)) H → va_D (kA (kM) ad s.heap.size) (kW (kM) ad (gM n ad cI cZ cL ρk)) → va_S (kA (kM) ad s.heap.size) s.heap H locs → lv_has ls 4 [(0, .ref (ad (0, 0))), (1, .int (nI (k + 1)))] → W p l e (headSpec (km ky_M_oneTick kc_M_oneTick 4 none) ({ frames := 3, cells := 0, slots := 0, locals := 66 })).room s m [.ref (ad (0, 0))].toArray below meth c H locs 0 0 (MQ below (mQv D n ad cI cZ cL s.heap.size (fun τ => mTk n σ = τ)) [.ref (ad (0, 0))].toArray s 0 0 (kA (kM) ad s.heap.size)) (F0 m 184 ls []) := by
          intro q
          induction q with
          | zero => intro k ρk  H locs ls hj_k hq_k; exact absurd hq_k (by omega)
          | succ q ih_k =>
            intro k ρk  H locs ls hj_k hq_k hI_k hP hD hS hl
            refine lv_iload_n hx hb kd_M_oneTick_184 rfl (lv_at hl 1 rfl) ?_
            refine lv_aload_n hx hb kd_M_oneTick_185 rfl (lv_at hl 0 rfl) ?_
            refine kx_get (ci := 3) (fs := thisM ad n ρk) (v := .int (nI n)) hx hb hw ki_M hown hK hP kM_0 rfl rfl 1 (by decide) kw_242 rfl rfl kd_M_oneTick_186 ?_
            refine lv_icmp_gt (tgt := 299) hx hb kd_M_oneTick_189 (by decide) (fun c_3 => ?_) (fun c_3 => ?_)
            · have hje_k : k = n := lp_endg (by omega) hj_k c_3
              exact W.vret hx hb hr (fun t ht hW => ⟨⟨ρk, rfl, by rw [hje_k] at hI_k; exact hI_k.symm, by rw [ht]; exact hP, va_K.moved hW.alike hK, hD.weaken (fun _ _ _ _ => trivial)⟩, hS.F ht⟩) hS.2.2 kd_M_oneTick_299
            · have hlt_k : k < n := lp_gog (by omega) hj_k c_3
              refine lv_aload_n hx hb kd_M_oneTick_192 rfl (lv_at hl 0 rfl) ?_
              refine kx_get (ci := 3) (fs := thisM ad n ρk) (v := .ref (ad (9, 0))) hx hb hw ki_M hown hK hP kM_0 rfl rfl 10 (by decide) kw_251 rfl rfl kd_M_oneTick_193 ?_
              refine lv_iload_n hx hb kd_M_oneTick_196 rfl (lv_at hl 1 rfl) ?_
              refine kx_zald (i := k + 1) hx hb hK hP kM_9 1 rfl rfl rfl (by omega) (by decide) kd_M_oneTick_197 ?_
              refine lv_if_eq (tgt := 223) hx hb kd_M_oneTick_198 (by decide) (fun c_4 => ?_) (fun c_4 => ?_)
              · refine lv_aload_n hx hb kd_M_oneTick_223 rfl (lv_at hl 0 rfl) ?_
                refine kx_get (ci := 3) (fs := thisM ad n ρk) (v := .long ρk.2.2.2.2.1) hx hb hw ki_M hown hK hP kM_0 rfl rfl 15 (by decide) kw_256 rfl rfl kd_M_oneTick_224 ?_
                refine lv_aload_n hx hb kd_M_oneTick_227 rfl (lv_at hl 0 rfl) ?_
                refine kx_get (ci := 3) (fs := thisM ad n ρk) (v := .ref (ad (8, 0))) hx hb hw ki_M hown hK hP kM_0 rfl rfl 9 (by decide) kw_250 rfl rfl kd_M_oneTick_228 ?_
                refine lv_iload_n hx hb kd_M_oneTick_231 rfl (lv_at hl 1 rfl) ?_
                refine kx_lald (i := k + 1) hx hb hK hP kM_8 2 rfl rfl rfl (by omega) (by decide) kd_M_oneTick_232 ?_
                refine lv_lsub hx hb kd_M_oneTick_233 ?_
                refine lv_ldc2 (v := 3) hx hb hown (hw _ kw_346) kd_M_oneTick_234 ?_
                refine W.lcmp hx hb kd_M_oneTick_237 ?_
                refine lv_if_lt (tgt := 245) hx hb kd_M_oneTick_238 (by decide) (fun c_5 => ?_) (fun c_5 => ?_)
                · have c_5 := (lg_cmp_lt _ _).mp c_5
                  refine lv_iconst (v := 0) hx hb kd_M_oneTick_245 (by decide) ?_
                  refine lv_istore_n (lv' := [(2, .int 0), (0, .ref (ad (0, 0))), (1, .int (nI (k + 1)))]) hx hb kd_M_oneTick_246 rfl hl (by decide) rfl (fun ls hl => ?_)
                  refine lv_aload_n hx hb kd_M_oneTick_247 rfl (lv_at hl 1 rfl) ?_
                  refine kx_get (ci := 3) (fs := thisM ad n ρk) (v := .ref (ad (1, 0))) hx hb hw ki_M hown hK hP kM_0 rfl rfl 2 (by decide) kw_243 rfl rfl kd_M_oneTick_248 ?_
                  refine lv_iload_n hx hb kd_M_oneTick_251 rfl (lv_at hl 2 rfl) ?_
                  refine kx_iald (i := k + 1) hx hb hK hP kM_1 0 rfl rfl rfl (by omega) (by decide) kd_M_oneTick_252 ?_
                  refine lv_iconst (v := 2) hx hb kd_M_oneTick_253 (by decide) ?_
                  refine lv_icmp_le (tgt := 293) hx hb kd_M_oneTick_254 (by decide) (fun c_6 => ?_) (fun c_6 => ?_)
                  · refine lv_iinc (v := nI (k + 1 + 1)) (lv' := [(1, .int (nI (k + 1 + 1))), (2, .int 0), (0, .ref (ad (0, 0)))]) hx hb kd_M_oneTick_293 hl (k := 2) rfl (nI_1 (k + 1)) (by decide) rfl (fun ls hl => ?_)
                    refine lv_goto (tgt := 184) hx hb kd_M_oneTick_296 (by decide) ?_
                    exact ih_k (k + 1) ρk  _ _ _ hlt_k (by omega) (by show _ = mSdS n (mSdA n (mChA n (mT1 σ) n) k) (k + 1); rw [← hI_k]; simp only [mSdS, mSnd, if_pos c_4, if_pos c_5, if_pos c_6]) hP hD hS (lv_sub hl [2, 0] rfl)
                  · refine lv_aload_n hx hb kd_M_oneTick_257 rfl (lv_at hl 1 rfl) ?_
                    refine kx_get (ci := 3) (fs := thisM ad n ρk) (v := .ref (ad (3, 0))) hx hb hw ki_M hown hK hP kM_0 rfl rfl 4 (by decide) kw_245 rfl rfl kd_M_oneTick_258 ?_
                    refine lv_iload_n hx hb kd_M_oneTick_261 rfl (lv_at hl 2 rfl) ?_
                    refine kx_zald (i := k + 1) hx hb hK hP kM_3 1 rfl rfl rfl (by omega) (by decide) kd_M_oneTick_262 ?_
                    refine lv_if_ne (tgt := 293) hx hb kd_M_oneTick_263 (by decide) (fun c_7 => ?_) (fun c_7 => ?_)
                    · refine lv_iinc (v := nI (k + 1 + 1)) (lv' := [(1, .int (nI (k + 1 + 1))), (2, .int 0), (0, .ref (ad (0, 0)))]) hx hb kd_M_oneTick_293 hl (k := 2) rfl (nI_1 (k + 1)) (by decide) rfl (fun ls hl => ?_)
                      refine lv_goto (tgt := 184) hx hb kd_M_oneTick_296 (by decide) ?_
                      exact ih_k (k + 1) ρk  _ _ _ hlt_k (by omega) (by show _ = mSdS n (mSdA n (mChA n (mT1 σ) n) k) (k + 1); rw [← hI_k]; simp only [mSdS, mSnd, if_pos c_4, if_pos c_5, if_neg c_6, if_neg c_7]) hP hD hS (lv_sub hl [2, 0] rfl)
                    · refine lv_iload_n hx hb kd_M_oneTick_266 rfl (lv_at hl 0 rfl) ?_
                      refine lv_if_eq (tgt := 293) hx hb kd_M_oneTick_267 (by decide) (fun _ => ?_) (fun c0 => absurd (by decide) c0)
                      refine lv_iinc (v := nI (k + 1 + 1)) (lv' := [(1, .int (nI (k + 1 + 1))), (2, .int 0), (0, .ref (ad (0, 0)))]) hx hb kd_M_oneTick_293 hl (k := 2) rfl (nI_1 (k + 1)) (by decide) rfl (fun ls hl => ?_)
                      refine lv_goto (tgt := 184) hx hb kd_M_oneTick_296 (by decide) ?_
                      exact ih_k (k + 1) ρk  _ _ _ hlt_k (by omega) (by show _ = mSdS n (mSdA n (mChA n (mT1 σ) n) k) (k + 1); rw [← hI_k]; simp only [mSdS, mSnd, if_pos c_4, if_pos c_5, if_neg c_6, if_pos c_7]) hP hD hS (lv_sub hl [2, 0] rfl)
                · have c_5 := fun h => c_5 ((lg_cmp_lt _ _).mpr h)
                  refine lv_iconst (v := 1) hx hb kd_M_oneTick_241 (by decide) ?_
                  refine lv_goto (tgt := 246) hx hb kd_M_oneTick_242 (by decide) ?_
                  refine lv_istore_n (lv' := [(2, .int 1), (0, .ref (ad (0, 0))), (1, .int (nI (k + 1)))]) hx hb kd_M_oneTick_246 rfl hl (by decide) rfl (fun ls hl => ?_)
                  refine lv_aload_n hx hb kd_M_oneTick_247 rfl (lv_at hl 1 rfl) ?_
                  refine kx_get (ci := 3) (fs := thisM ad n ρk) (v := .ref (ad (1, 0))) hx hb hw ki_M hown hK hP kM_0 rfl rfl 2 (by decide) kw_243 rfl rfl kd_M_oneTick_248 ?_
                  refine lv_iload_n hx hb kd_M_oneTick_251 rfl (lv_at hl 2 rfl) ?_
                  refine kx_iald (i := k + 1) hx hb hK hP kM_1 0 rfl rfl rfl (by omega) (by decide) kd_M_oneTick_252 ?_
                  refine lv_iconst (v := 2) hx hb kd_M_oneTick_253 (by decide) ?_
                  refine lv_icmp_le (tgt := 293) hx hb kd_M_oneTick_254 (by decide) (fun c_8 => ?_) (fun c_8 => ?_)
                  · refine lv_iinc (v := nI (k + 1 + 1)) (lv' := [(1, .int (nI (k + 1 + 1))), (2, .int 1), (0, .ref (ad (0, 0)))]) hx hb kd_M_oneTick_293 hl (k := 2) rfl (nI_1 (k + 1)) (by decide) rfl (fun ls hl => ?_)
                    refine lv_goto (tgt := 184) hx hb kd_M_oneTick_296 (by decide) ?_
                    exact ih_k (k + 1) ρk  _ _ _ hlt_k (by omega) (by show _ = mSdS n (mSdA n (mChA n (mT1 σ) n) k) (k + 1); rw [← hI_k]; simp only [mSdS, mSnd, if_pos c_4, if_neg c_5, if_pos c_8]) hP hD hS (lv_sub hl [2, 0] rfl)
                  · refine lv_aload_n hx hb kd_M_oneTick_257 rfl (lv_at hl 1 rfl) ?_
                    refine kx_get (ci := 3) (fs := thisM ad n ρk) (v := .ref (ad (3, 0))) hx hb hw ki_M hown hK hP kM_0 rfl rfl 4 (by decide) kw_245 rfl rfl kd_M_oneTick_258 ?_
                    refine lv_iload_n hx hb kd_M_oneTick_261 rfl (lv_at hl 2 rfl) ?_
                    refine kx_zald (i := k + 1) hx hb hK hP kM_3 1 rfl rfl rfl (by omega) (by decide) kd_M_oneTick_262 ?_
                    refine lv_if_ne (tgt := 293) hx hb kd_M_oneTick_263 (by decide) (fun c_9 => ?_) (fun c_9 => ?_)
                    · refine lv_iinc (v := nI (k + 1 + 1)) (lv' := [(1, .int (nI (k + 1 + 1))), (2, .int 1), (0, .ref (ad (0, 0)))]) hx hb kd_M_oneTick_293 hl (k := 2) rfl (nI_1 (k + 1)) (by decide) rfl (fun ls hl => ?_)
                      refine lv_goto (tgt := 184) hx hb kd_M_oneTick_296 (by decide) ?_
                      exact ih_k (k + 1) ρk  _ _ _ hlt_k (by omega) (by show _ = mSdS n (mSdA n (mChA n (mT1 σ) n) k) (k + 1); rw [← hI_k]; simp only [mSdS, mSnd, if_pos c_4, if_neg c_5, if_neg c_8, if_neg c_9]) hP hD hS (lv_sub hl [2, 0] rfl)
                    · refine lv_iload_n hx hb kd_M_oneTick_266 rfl (lv_at hl 0 rfl) ?_
                      refine lv_if_eq (tgt := 293) hx hb kd_M_oneTick_267 (by decide) (fun c0 => absurd c0 (by decide)) (fun _ => ?_)
                      refine lv_aload_n hx hb kd_M_oneTick_270 rfl (lv_at hl 1 rfl) ?_
                      refine kx_get (ci := 3) (fs := thisM ad n ρk) (v := .ref (ad (8, 0))) hx hb hw ki_M hown hK hP kM_0 rfl rfl 9 (by decide) kw_250 rfl rfl kd_M_oneTick_271 ?_
                      refine lv_iload_n hx hb kd_M_oneTick_274 rfl (lv_at hl 2 rfl) ?_
                      refine lv_aload_n hx hb kd_M_oneTick_275 rfl (lv_at hl 1 rfl) ?_
                      refine kx_get (ci := 3) (fs := thisM ad n ρk) (v := .long ρk.2.2.2.2.1) hx hb hw ki_M hown hK hP kM_0 rfl rfl 15 (by decide) kw_256 rfl rfl kd_M_oneTick_276 ?_
                      refine kx_last (i := k + 1) (g2 := gM n ad cI cZ cL (setM ρk (k + 1) ((ρk.1 (k + 1)).1, (ρk.1 (k + 1)).2.1, (ρk.1 (k + 1)).2.2.1, (ρk.1 (k + 1)).2.2.2.1, (ρk.1 (k + 1)).2.2.2.2.1, (ρk.1 (k + 1)).2.2.2.2.2.1, (ρk.1 (k + 1)).2.2.2.2.2.2.1, ρk.2.2.2.2.1, (ρk.1 (k + 1)).2.2.2.2.2.2.2.2.1, (ρk.1 (k + 1)).2.2.2.2.2.2.2.2.2))) hx hb hK hP hD hS kM_8 2 rfl rfl rfl (by omega) (by decide) gM_8 kd_M_oneTick_279 (fun H locs hP hD hS => ?_)
                      generalize hτ10 : (setM ρk (k + 1) ((ρk.1 (k + 1)).1, (ρk.1 (k + 1)).2.1, (ρk.1 (k + 1)).2.2.1, (ρk.1 (k + 1)).2.2.2.1, (ρk.1 (k + 1)).2.2.2.2.1, (ρk.1 (k + 1)).2.2.2.2.2.1, (ρk.1 (k + 1)).2.2.2.2.2.2.1, ρk.2.2.2.2.1, (ρk.1 (k + 1)).2.2.2.2.2.2.2.2.1, (ρk.1 (k + 1)).2.2.2.2.2.2.2.2.2) : MS) = τ10 at hP hD
                      refine lv_aload_n hx hb kd_M_oneTick_280 rfl (lv_at hl 1 rfl) ?_
                      refine kx_get (ci := 3) (fs := thisM ad n τ10) (v := .ref (ad (9, 0))) hx hb hw ki_M hown hK hP kM_0 rfl rfl 10 (by decide) kw_251 rfl rfl kd_M_oneTick_281 ?_
                      refine lv_iload_n hx hb kd_M_oneTick_284 rfl (lv_at hl 2 rfl) ?_
                      refine lv_iconst (v := 0) hx hb kd_M_oneTick_285 (by decide) ?_
                      refine kx_zast (i := k + 1) (g2 := gM n ad cI cZ cL (setM τ10 (k + 1) ((τ10.1 (k + 1)).1, (τ10.1 (k + 1)).2.1, (τ10.1 (k + 1)).2.2.1, (τ10.1 (k + 1)).2.2.2.1, (τ10.1 (k + 1)).2.2.2.2.1, (τ10.1 (k + 1)).2.2.2.2.2.1, (τ10.1 (k + 1)).2.2.2.2.2.2.1, (τ10.1 (k + 1)).2.2.2.2.2.2.2.1, 0, (τ10.1 (k + 1)).2.2.2.2.2.2.2.2.2))) hx hb hK hP hD hS kM_9 1 rfl rfl rfl rfl (by omega) (by decide) gM_9 kd_M_oneTick_286 (fun H locs hP hD hS => ?_)
                      generalize hτ11 : (setM τ10 (k + 1) ((τ10.1 (k + 1)).1, (τ10.1 (k + 1)).2.1, (τ10.1 (k + 1)).2.2.1, (τ10.1 (k + 1)).2.2.2.1, (τ10.1 (k + 1)).2.2.2.2.1, (τ10.1 (k + 1)).2.2.2.2.2.1, (τ10.1 (k + 1)).2.2.2.2.2.2.1, (τ10.1 (k + 1)).2.2.2.2.2.2.2.1, 0, (τ10.1 (k + 1)).2.2.2.2.2.2.2.2.2) : MS) = τ11 at hP hD
                      refine lv_aload_n hx hb kd_M_oneTick_287 rfl (lv_at hl 1 rfl) ?_
                      refine lv_iload_n hx hb kd_M_oneTick_288 rfl (lv_at hl 2 rfl) ?_
                      refine kx_Vi (G := gM n ad cI cZ cL) (σ := τ11) (κ := (0, 0)) (ci := 3) (fs := thisM ad n τ11) (As := [.int (nI (k + 1))]) (rest := []) (n := 1) hx hb hml hown hts hT (ct_M_row l D hn ad cI cZ cL τ11 (Nat.succ_pos k) hlt_k H.size) kw_347 kw_349 ks_23 kw_5 kw_350 (by decide +kernel) ⟨rfl, rfl⟩ ⟨Nat.le_of_ble_eq_true rfl, Nat.le_of_ble_eq_true rfl⟩ hK hP hD hS kM_0 rfl rfl rfl hl.1 (Nat.le_of_ble_eq_true rfl) kd_M_oneTick_289 rfl ⟨Nat.zero_le _, Nat.zero_le _⟩ (fun r_12 τ13 H locs hq14 hP hD hS => ?_)
                      obtain ⟨hr_12, hτ13⟩ := hq14
                      refine lv_istore_n (lv' := [(3, .int r_12), (2, .int 1), (0, .ref (ad (0, 0))), (1, .int (nI (k + 1)))]) hx hb kd_M_oneTick_292 rfl hl (by decide) rfl (fun ls hl => ?_)
                      refine lv_iinc (v := nI (k + 1 + 1)) (lv' := [(1, .int (nI (k + 1 + 1))), (3, .int r_12), (2, .int 1), (0, .ref (ad (0, 0)))]) hx hb kd_M_oneTick_293 hl (k := 3) rfl (nI_1 (k + 1)) (by decide) rfl (fun ls hl => ?_)
                      refine lv_goto (tgt := 184) hx hb kd_M_oneTick_296 (by decide) ?_
                      exact ih_k (k + 1) τ13  _ _ _ hlt_k (by omega) (by show _ = mSdS n (mSdA n (mChA n (mT1 σ) n) k) (k + 1); rw [← hI_k]; subst hτ10; subst hτ11; subst hτ13; simp only [mSdS, mSnd, if_pos c_4, if_neg c_5, if_neg c_8, if_pos c_9]) hP hD hS (lv_sub hl [3, 0] rfl)
              · refine lv_aload_n hx hb kd_M_oneTick_201 rfl (lv_at hl 0 rfl) ?_
                refine kx_get (ci := 3) (fs := thisM ad n ρk) (v := .ref (ad (10, 0))) hx hb hw ki_M hown hK hP kM_0 rfl rfl 11 (by decide) kw_252 rfl rfl kd_M_oneTick_202 ?_
                refine lv_iload_n hx hb kd_M_oneTick_205 rfl (lv_at hl 1 rfl) ?_
                refine kx_lald (i := k + 1) hx hb hK hP kM_10 2 rfl rfl rfl (by omega) (by decide) kd_M_oneTick_206 ?_
                refine lv_aload_n hx hb kd_M_oneTick_207 rfl (lv_at hl 0 rfl) ?_
                refine kx_get (ci := 3) (fs := thisM ad n ρk) (v := .long ρk.2.2.2.2.1) hx hb hw ki_M hown hK hP kM_0 rfl rfl 15 (by decide) kw_256 rfl rfl kd_M_oneTick_208 ?_
                refine W.lcmp hx hb kd_M_oneTick_211 ?_
                refine lv_if_ge (tgt := 219) hx hb kd_M_oneTick_212 (by decide) (fun c_15 => ?_) (fun c_15 => ?_)
                · have c_15 := (lg_cmp_ge _ _).mp c_15
                  refine lv_iconst (v := 0) hx hb kd_M_oneTick_219 (by decide) ?_
                  refine lv_goto (tgt := 246) hx hb kd_M_oneTick_220 (by decide) ?_
                  refine lv_istore_n (lv' := [(2, .int 0), (0, .ref (ad (0, 0))), (1, .int (nI (k + 1)))]) hx hb kd_M_oneTick_246 rfl hl (by decide) rfl (fun ls hl => ?_)
                  refine lv_aload_n hx hb kd_M_oneTick_247 rfl (lv_at hl 1 rfl) ?_
                  refine kx_get (ci := 3) (fs := thisM ad n ρk) (v := .ref (ad (1, 0))) hx hb hw ki_M hown hK hP kM_0 rfl rfl 2 (by decide) kw_243 rfl rfl kd_M_oneTick_248 ?_
                  refine lv_iload_n hx hb kd_M_oneTick_251 rfl (lv_at hl 2 rfl) ?_
                  refine kx_iald (i := k + 1) hx hb hK hP kM_1 0 rfl rfl rfl (by omega) (by decide) kd_M_oneTick_252 ?_
                  refine lv_iconst (v := 2) hx hb kd_M_oneTick_253 (by decide) ?_
                  refine lv_icmp_le (tgt := 293) hx hb kd_M_oneTick_254 (by decide) (fun c_16 => ?_) (fun c_16 => ?_)
                  · refine lv_iinc (v := nI (k + 1 + 1)) (lv' := [(1, .int (nI (k + 1 + 1))), (2, .int 0), (0, .ref (ad (0, 0)))]) hx hb kd_M_oneTick_293 hl (k := 2) rfl (nI_1 (k + 1)) (by decide) rfl (fun ls hl => ?_)
                    refine lv_goto (tgt := 184) hx hb kd_M_oneTick_296 (by decide) ?_
                    exact ih_k (k + 1) ρk  _ _ _ hlt_k (by omega) (by show _ = mSdS n (mSdA n (mChA n (mT1 σ) n) k) (k + 1); rw [← hI_k]; simp only [mSdS, mSnd, if_neg c_4, if_pos c_15, if_pos c_16]) hP hD hS (lv_sub hl [2, 0] rfl)
                  · refine lv_aload_n hx hb kd_M_oneTick_257 rfl (lv_at hl 1 rfl) ?_
                    refine kx_get (ci := 3) (fs := thisM ad n ρk) (v := .ref (ad (3, 0))) hx hb hw ki_M hown hK hP kM_0 rfl rfl 4 (by decide) kw_245 rfl rfl kd_M_oneTick_258 ?_
                    refine lv_iload_n hx hb kd_M_oneTick_261 rfl (lv_at hl 2 rfl) ?_
                    refine kx_zald (i := k + 1) hx hb hK hP kM_3 1 rfl rfl rfl (by omega) (by decide) kd_M_oneTick_262 ?_
                    refine lv_if_ne (tgt := 293) hx hb kd_M_oneTick_263 (by decide) (fun c_17 => ?_) (fun c_17 => ?_)
                    · refine lv_iinc (v := nI (k + 1 + 1)) (lv' := [(1, .int (nI (k + 1 + 1))), (2, .int 0), (0, .ref (ad (0, 0)))]) hx hb kd_M_oneTick_293 hl (k := 2) rfl (nI_1 (k + 1)) (by decide) rfl (fun ls hl => ?_)
                      refine lv_goto (tgt := 184) hx hb kd_M_oneTick_296 (by decide) ?_
                      exact ih_k (k + 1) ρk  _ _ _ hlt_k (by omega) (by show _ = mSdS n (mSdA n (mChA n (mT1 σ) n) k) (k + 1); rw [← hI_k]; simp only [mSdS, mSnd, if_neg c_4, if_pos c_15, if_neg c_16, if_neg c_17]) hP hD hS (lv_sub hl [2, 0] rfl)
                    · refine lv_iload_n hx hb kd_M_oneTick_266 rfl (lv_at hl 0 rfl) ?_
                      refine lv_if_eq (tgt := 293) hx hb kd_M_oneTick_267 (by decide) (fun _ => ?_) (fun c0 => absurd (by decide) c0)
                      refine lv_iinc (v := nI (k + 1 + 1)) (lv' := [(1, .int (nI (k + 1 + 1))), (2, .int 0), (0, .ref (ad (0, 0)))]) hx hb kd_M_oneTick_293 hl (k := 2) rfl (nI_1 (k + 1)) (by decide) rfl (fun ls hl => ?_)
                      refine lv_goto (tgt := 184) hx hb kd_M_oneTick_296 (by decide) ?_
                      exact ih_k (k + 1) ρk  _ _ _ hlt_k (by omega) (by show _ = mSdS n (mSdA n (mChA n (mT1 σ) n) k) (k + 1); rw [← hI_k]; simp only [mSdS, mSnd, if_neg c_4, if_pos c_15, if_neg c_16, if_pos c_17]) hP hD hS (lv_sub hl [2, 0] rfl)
                · have c_15 := fun h => c_15 ((lg_cmp_ge _ _).mpr h)
                  refine lv_iconst (v := 1) hx hb kd_M_oneTick_215 (by decide) ?_
                  refine lv_goto (tgt := 246) hx hb kd_M_oneTick_216 (by decide) ?_
                  refine lv_istore_n (lv' := [(2, .int 1), (0, .ref (ad (0, 0))), (1, .int (nI (k + 1)))]) hx hb kd_M_oneTick_246 rfl hl (by decide) rfl (fun ls hl => ?_)
                  refine lv_aload_n hx hb kd_M_oneTick_247 rfl (lv_at hl 1 rfl) ?_
                  refine kx_get (ci := 3) (fs := thisM ad n ρk) (v := .ref (ad (1, 0))) hx hb hw ki_M hown hK hP kM_0 rfl rfl 2 (by decide) kw_243 rfl rfl kd_M_oneTick_248 ?_
                  refine lv_iload_n hx hb kd_M_oneTick_251 rfl (lv_at hl 2 rfl) ?_
                  refine kx_iald (i := k + 1) hx hb hK hP kM_1 0 rfl rfl rfl (by omega) (by decide) kd_M_oneTick_252 ?_
                  refine lv_iconst (v := 2) hx hb kd_M_oneTick_253 (by decide) ?_
                  refine lv_icmp_le (tgt := 293) hx hb kd_M_oneTick_254 (by decide) (fun c_18 => ?_) (fun c_18 => ?_)
                  · refine lv_iinc (v := nI (k + 1 + 1)) (lv' := [(1, .int (nI (k + 1 + 1))), (2, .int 1), (0, .ref (ad (0, 0)))]) hx hb kd_M_oneTick_293 hl (k := 2) rfl (nI_1 (k + 1)) (by decide) rfl (fun ls hl => ?_)
                    refine lv_goto (tgt := 184) hx hb kd_M_oneTick_296 (by decide) ?_
                    exact ih_k (k + 1) ρk  _ _ _ hlt_k (by omega) (by show _ = mSdS n (mSdA n (mChA n (mT1 σ) n) k) (k + 1); rw [← hI_k]; simp only [mSdS, mSnd, if_neg c_4, if_neg c_15, if_pos c_18]) hP hD hS (lv_sub hl [2, 0] rfl)
                  · refine lv_aload_n hx hb kd_M_oneTick_257 rfl (lv_at hl 1 rfl) ?_
                    refine kx_get (ci := 3) (fs := thisM ad n ρk) (v := .ref (ad (3, 0))) hx hb hw ki_M hown hK hP kM_0 rfl rfl 4 (by decide) kw_245 rfl rfl kd_M_oneTick_258 ?_
                    refine lv_iload_n hx hb kd_M_oneTick_261 rfl (lv_at hl 2 rfl) ?_
                    refine kx_zald (i := k + 1) hx hb hK hP kM_3 1 rfl rfl rfl (by omega) (by decide) kd_M_oneTick_262 ?_
                    refine lv_if_ne (tgt := 293) hx hb kd_M_oneTick_263 (by decide) (fun c_19 => ?_) (fun c_19 => ?_)
                    · refine lv_iinc (v := nI (k + 1 + 1)) (lv' := [(1, .int (nI (k + 1 + 1))), (2, .int 1), (0, .ref (ad (0, 0)))]) hx hb kd_M_oneTick_293 hl (k := 2) rfl (nI_1 (k + 1)) (by decide) rfl (fun ls hl => ?_)
                      refine lv_goto (tgt := 184) hx hb kd_M_oneTick_296 (by decide) ?_
                      exact ih_k (k + 1) ρk  _ _ _ hlt_k (by omega) (by show _ = mSdS n (mSdA n (mChA n (mT1 σ) n) k) (k + 1); rw [← hI_k]; simp only [mSdS, mSnd, if_neg c_4, if_neg c_15, if_neg c_18, if_neg c_19]) hP hD hS (lv_sub hl [2, 0] rfl)
                    · refine lv_iload_n hx hb kd_M_oneTick_266 rfl (lv_at hl 0 rfl) ?_
                      refine lv_if_eq (tgt := 293) hx hb kd_M_oneTick_267 (by decide) (fun c0 => absurd c0 (by decide)) (fun _ => ?_)
                      refine lv_aload_n hx hb kd_M_oneTick_270 rfl (lv_at hl 1 rfl) ?_
                      refine kx_get (ci := 3) (fs := thisM ad n ρk) (v := .ref (ad (8, 0))) hx hb hw ki_M hown hK hP kM_0 rfl rfl 9 (by decide) kw_250 rfl rfl kd_M_oneTick_271 ?_
                      refine lv_iload_n hx hb kd_M_oneTick_274 rfl (lv_at hl 2 rfl) ?_
                      refine lv_aload_n hx hb kd_M_oneTick_275 rfl (lv_at hl 1 rfl) ?_
                      refine kx_get (ci := 3) (fs := thisM ad n ρk) (v := .long ρk.2.2.2.2.1) hx hb hw ki_M hown hK hP kM_0 rfl rfl 15 (by decide) kw_256 rfl rfl kd_M_oneTick_276 ?_
                      refine kx_last (i := k + 1) (g2 := gM n ad cI cZ cL (setM ρk (k + 1) ((ρk.1 (k + 1)).1, (ρk.1 (k + 1)).2.1, (ρk.1 (k + 1)).2.2.1, (ρk.1 (k + 1)).2.2.2.1, (ρk.1 (k + 1)).2.2.2.2.1, (ρk.1 (k + 1)).2.2.2.2.2.1, (ρk.1 (k + 1)).2.2.2.2.2.2.1, ρk.2.2.2.2.1, (ρk.1 (k + 1)).2.2.2.2.2.2.2.2.1, (ρk.1 (k + 1)).2.2.2.2.2.2.2.2.2))) hx hb hK hP hD hS kM_8 2 rfl rfl rfl (by omega) (by decide) gM_8 kd_M_oneTick_279 (fun H locs hP hD hS => ?_)
                      generalize hτ20 : (setM ρk (k + 1) ((ρk.1 (k + 1)).1, (ρk.1 (k + 1)).2.1, (ρk.1 (k + 1)).2.2.1, (ρk.1 (k + 1)).2.2.2.1, (ρk.1 (k + 1)).2.2.2.2.1, (ρk.1 (k + 1)).2.2.2.2.2.1, (ρk.1 (k + 1)).2.2.2.2.2.2.1, ρk.2.2.2.2.1, (ρk.1 (k + 1)).2.2.2.2.2.2.2.2.1, (ρk.1 (k + 1)).2.2.2.2.2.2.2.2.2) : MS) = τ20 at hP hD
                      refine lv_aload_n hx hb kd_M_oneTick_280 rfl (lv_at hl 1 rfl) ?_
                      refine kx_get (ci := 3) (fs := thisM ad n τ20) (v := .ref (ad (9, 0))) hx hb hw ki_M hown hK hP kM_0 rfl rfl 10 (by decide) kw_251 rfl rfl kd_M_oneTick_281 ?_
                      refine lv_iload_n hx hb kd_M_oneTick_284 rfl (lv_at hl 2 rfl) ?_
                      refine lv_iconst (v := 0) hx hb kd_M_oneTick_285 (by decide) ?_
                      refine kx_zast (i := k + 1) (g2 := gM n ad cI cZ cL (setM τ20 (k + 1) ((τ20.1 (k + 1)).1, (τ20.1 (k + 1)).2.1, (τ20.1 (k + 1)).2.2.1, (τ20.1 (k + 1)).2.2.2.1, (τ20.1 (k + 1)).2.2.2.2.1, (τ20.1 (k + 1)).2.2.2.2.2.1, (τ20.1 (k + 1)).2.2.2.2.2.2.1, (τ20.1 (k + 1)).2.2.2.2.2.2.2.1, 0, (τ20.1 (k + 1)).2.2.2.2.2.2.2.2.2))) hx hb hK hP hD hS kM_9 1 rfl rfl rfl rfl (by omega) (by decide) gM_9 kd_M_oneTick_286 (fun H locs hP hD hS => ?_)
                      generalize hτ21 : (setM τ20 (k + 1) ((τ20.1 (k + 1)).1, (τ20.1 (k + 1)).2.1, (τ20.1 (k + 1)).2.2.1, (τ20.1 (k + 1)).2.2.2.1, (τ20.1 (k + 1)).2.2.2.2.1, (τ20.1 (k + 1)).2.2.2.2.2.1, (τ20.1 (k + 1)).2.2.2.2.2.2.1, (τ20.1 (k + 1)).2.2.2.2.2.2.2.1, 0, (τ20.1 (k + 1)).2.2.2.2.2.2.2.2.2) : MS) = τ21 at hP hD
                      refine lv_aload_n hx hb kd_M_oneTick_287 rfl (lv_at hl 1 rfl) ?_
                      refine lv_iload_n hx hb kd_M_oneTick_288 rfl (lv_at hl 2 rfl) ?_
                      refine kx_Vi (G := gM n ad cI cZ cL) (σ := τ21) (κ := (0, 0)) (ci := 3) (fs := thisM ad n τ21) (As := [.int (nI (k + 1))]) (rest := []) (n := 1) hx hb hml hown hts hT (ct_M_row l D hn ad cI cZ cL τ21 (Nat.succ_pos k) hlt_k H.size) kw_347 kw_349 ks_23 kw_5 kw_350 (by decide +kernel) ⟨rfl, rfl⟩ ⟨Nat.le_of_ble_eq_true rfl, Nat.le_of_ble_eq_true rfl⟩ hK hP hD hS kM_0 rfl rfl rfl hl.1 (Nat.le_of_ble_eq_true rfl) kd_M_oneTick_289 rfl ⟨Nat.zero_le _, Nat.zero_le _⟩ (fun r_22 τ23 H locs hq24 hP hD hS => ?_)
                      obtain ⟨hr_22, hτ23⟩ := hq24
                      refine lv_istore_n (lv' := [(3, .int r_22), (2, .int 1), (0, .ref (ad (0, 0))), (1, .int (nI (k + 1)))]) hx hb kd_M_oneTick_292 rfl hl (by decide) rfl (fun ls hl => ?_)
                      refine lv_iinc (v := nI (k + 1 + 1)) (lv' := [(1, .int (nI (k + 1 + 1))), (3, .int r_22), (2, .int 1), (0, .ref (ad (0, 0)))]) hx hb kd_M_oneTick_293 hl (k := 3) rfl (nI_1 (k + 1)) (by decide) rfl (fun ls hl => ?_)
                      refine lv_goto (tgt := 184) hx hb kd_M_oneTick_296 (by decide) ?_
                      exact ih_k (k + 1) τ23  _ _ _ hlt_k (by omega) (by show _ = mSdS n (mSdA n (mChA n (mT1 σ) n) k) (k + 1); rw [← hI_k]; subst hτ20; subst hτ21; subst hτ23; simp only [mSdS, mSnd, if_neg c_4, if_neg c_15, if_neg c_18, if_pos c_19]) hP hD hS (lv_sub hl [3, 0] rfl)
        exact loop2 (n + 1) 0 ρj  _ _ _ (Nat.zero_le _) (by omega) (by rw [hje_j] at hI_j; exact hI_j) hP hD hS (lv_sub hl [1, 0] rfl)
      · have hlt_j : j < n := lp_gog (by omega) hj_j c_2
        refine lv_aload_n hx hb kd_M_oneTick_20 rfl (lv_at hl 0 rfl) ?_
        refine kx_get (ci := 3) (fs := thisM ad n ρj) (v := .long ρj.2.2.2.2.1) hx hb hw ki_M hown hK hP kM_0 rfl rfl 15 (by decide) kw_256 rfl rfl kd_M_oneTick_21 ?_
        refine lv_aload_n hx hb kd_M_oneTick_24 rfl (lv_at hl 0 rfl) ?_
        refine kx_get (ci := 3) (fs := thisM ad n ρj) (v := .ref (ad (6, 0))) hx hb hw ki_M hown hK hP kM_0 rfl rfl 7 (by decide) kw_248 rfl rfl kd_M_oneTick_25 ?_
        refine lv_iload_n hx hb kd_M_oneTick_28 rfl (lv_at hl 1 rfl) ?_
        refine kx_lald (i := j + 1) hx hb hK hP kM_6 2 rfl rfl rfl (by omega) (by decide) kd_M_oneTick_29 ?_
        refine lv_lsub hx hb kd_M_oneTick_30 ?_
        refine lv_lstore_n (lv' := [(2, .long (ρj.2.2.2.2.1 - ((ρj.1 (j + 1)).2.2.2.2.2.1))), (0, .ref (ad (0, 0))), (1, .int (nI (j + 1)))]) hx hb kd_M_oneTick_31 rfl hl (by decide) rfl (fun ls hl => ?_)
        refine lv_aload_n hx hb kd_M_oneTick_32 rfl (lv_at hl 1 rfl) ?_
        refine kx_get (ci := 3) (fs := thisM ad n ρj) (v := .ref (ad (1, 0))) hx hb hw ki_M hown hK hP kM_0 rfl rfl 2 (by decide) kw_243 rfl rfl kd_M_oneTick_33 ?_
        refine lv_iload_n hx hb kd_M_oneTick_36 rfl (lv_at hl 2 rfl) ?_
        refine kx_iald (i := j + 1) hx hb hK hP kM_1 0 rfl rfl rfl (by omega) (by decide) kd_M_oneTick_37 ?_
        refine lv_iconst (v := 4) hx hb kd_M_oneTick_38 (by decide) ?_
        refine lv_icmp_ne (tgt := 71) hx hb kd_M_oneTick_39 (by decide) (fun c_25 => ?_) (fun c_25 => ?_)
        · refine lv_aload_n hx hb kd_M_oneTick_71 rfl (lv_at hl 1 rfl) ?_
          refine kx_get (ci := 3) (fs := thisM ad n ρj) (v := .ref (ad (1, 0))) hx hb hw ki_M hown hK hP kM_0 rfl rfl 2 (by decide) kw_243 rfl rfl kd_M_oneTick_72 ?_
          refine lv_iload_n hx hb kd_M_oneTick_75 rfl (lv_at hl 2 rfl) ?_
          refine kx_iald (i := j + 1) hx hb hK hP kM_1 0 rfl rfl rfl (by omega) (by decide) kd_M_oneTick_76 ?_
          refine lv_iconst (v := 3) hx hb kd_M_oneTick_77 (by decide) ?_
          refine lv_icmp_ne (tgt := 98) hx hb kd_M_oneTick_78 (by decide) (fun c_26 => ?_) (fun c_26 => ?_)
          · refine lv_aload_n hx hb kd_M_oneTick_98 rfl (lv_at hl 1 rfl) ?_
            refine kx_get (ci := 3) (fs := thisM ad n ρj) (v := .ref (ad (1, 0))) hx hb hw ki_M hown hK hP kM_0 rfl rfl 2 (by decide) kw_243 rfl rfl kd_M_oneTick_99 ?_
            refine lv_iload_n hx hb kd_M_oneTick_102 rfl (lv_at hl 2 rfl) ?_
            refine kx_iald (i := j + 1) hx hb hK hP kM_1 0 rfl rfl rfl (by omega) (by decide) kd_M_oneTick_103 ?_
            refine lv_iconst (v := 2) hx hb kd_M_oneTick_104 (by decide) ?_
            refine lv_icmp_ne (tgt := 125) hx hb kd_M_oneTick_105 (by decide) (fun c_27 => ?_) (fun c_27 => ?_)
            · refine lv_aload_n hx hb kd_M_oneTick_125 rfl (lv_at hl 1 rfl) ?_
              refine kx_get (ci := 3) (fs := thisM ad n ρj) (v := .ref (ad (1, 0))) hx hb hw ki_M hown hK hP kM_0 rfl rfl 2 (by decide) kw_243 rfl rfl kd_M_oneTick_126 ?_
              refine lv_iload_n hx hb kd_M_oneTick_129 rfl (lv_at hl 2 rfl) ?_
              refine kx_iald (i := j + 1) hx hb hK hP kM_1 0 rfl rfl rfl (by omega) (by decide) kd_M_oneTick_130 ?_
              refine lv_iconst (v := 2) hx hb kd_M_oneTick_131 (by decide) ?_
              refine lv_icmp_ne (tgt := 152) hx hb kd_M_oneTick_132 (by decide) (fun c_28 => ?_) (fun c_28 => ?_)
              · refine lv_aload_n hx hb kd_M_oneTick_152 rfl (lv_at hl 1 rfl) ?_
                refine kx_get (ci := 3) (fs := thisM ad n ρj) (v := .ref (ad (1, 0))) hx hb hw ki_M hown hK hP kM_0 rfl rfl 2 (by decide) kw_243 rfl rfl kd_M_oneTick_153 ?_
                refine lv_iload_n hx hb kd_M_oneTick_156 rfl (lv_at hl 2 rfl) ?_
                refine kx_iald (i := j + 1) hx hb hK hP kM_1 0 rfl rfl rfl (by omega) (by decide) kd_M_oneTick_157 ?_
                refine lv_iconst (v := 1) hx hb kd_M_oneTick_158 (by decide) ?_
                refine lv_icmp_ne (tgt := 176) hx hb kd_M_oneTick_159 (by decide) (fun c_29 => ?_) (fun c_29 => ?_)
                · refine lv_iinc (v := nI (j + 1 + 1)) (lv' := [(1, .int (nI (j + 1 + 1))), (2, .long (ρj.2.2.2.2.1 - ((ρj.1 (j + 1)).2.2.2.2.2.1))), (0, .ref (ad (0, 0)))]) hx hb kd_M_oneTick_176 hl (k := 2) rfl (nI_1 (j + 1)) (by decide) rfl (fun ls hl => ?_)
                  refine lv_goto (tgt := 12) hx hb kd_M_oneTick_179 (by decide) ?_
                  exact ih_j (j + 1) ρj  _ _ _ hlt_j (by omega) (by show _ = mChS n (mChA n (mT1 σ) j) (j + 1); rw [← hI_j]; simp only [mChS, if_neg c_25, if_neg c_26, if_neg c_27, if_neg c_28, if_neg c_29]) hP hD hS (lv_sub hl [2, 0] rfl)
                · refine lv_lload_n hx hb kd_M_oneTick_162 rfl (lv_at hl 0 rfl) ?_
                  refine lv_ldc2 (v := 5) hx hb hown (hw _ kw_345) kd_M_oneTick_163 ?_
                  refine W.lcmp hx hb kd_M_oneTick_166 ?_
                  refine lv_if_lt (tgt := 176) hx hb kd_M_oneTick_167 (by decide) (fun c_30 => ?_) (fun c_30 => ?_)
                  · have c_30 := (lg_cmp_lt _ _).mp c_30
                    refine lv_iinc (v := nI (j + 1 + 1)) (lv' := [(1, .int (nI (j + 1 + 1))), (2, .long (ρj.2.2.2.2.1 - ((ρj.1 (j + 1)).2.2.2.2.2.1))), (0, .ref (ad (0, 0)))]) hx hb kd_M_oneTick_176 hl (k := 2) rfl (nI_1 (j + 1)) (by decide) rfl (fun ls hl => ?_)
                    refine lv_goto (tgt := 12) hx hb kd_M_oneTick_179 (by decide) ?_
                    exact ih_j (j + 1) ρj  _ _ _ hlt_j (by omega) (by show _ = mChS n (mChA n (mT1 σ) j) (j + 1); rw [← hI_j]; simp only [mChS, if_neg c_25, if_neg c_26, if_neg c_27, if_neg c_28, if_pos c_29, if_pos c_30]) hP hD hS (lv_sub hl [2, 0] rfl)
                  · have c_30 := fun h => c_30 ((lg_cmp_lt _ _).mpr h)
                    refine lv_aload_n hx hb kd_M_oneTick_170 rfl (lv_at hl 1 rfl) ?_
                    refine lv_iload_n hx hb kd_M_oneTick_171 rfl (lv_at hl 2 rfl) ?_
                    refine lv_iconst (v := 0) hx hb kd_M_oneTick_172 (by decide) ?_
                    refine kx_Vv (G := gM n ad cI cZ cL) (σ := ρj) (κ := (0, 0)) (ci := 3) (fs := thisM ad n ρj) (As := [.int (nI (j + 1)), .int 0]) (rest := []) (n := 2) hx hb hml hown hts hT (ct_M_become l D hn ad cI cZ cL ρj (Nat.succ_pos j) hlt_j 0 H.size) kw_311 kw_313 ks_17 kw_5 kw_314 (by decide +kernel) ⟨rfl, rfl⟩ ⟨Nat.le_of_ble_eq_true rfl, Nat.le_of_ble_eq_true rfl⟩ hK hP hD hS kM_0 rfl rfl rfl hl.1 (Nat.le_of_ble_eq_true rfl) kd_M_oneTick_173 rfl ⟨Nat.zero_le _, Nat.zero_le _⟩ (fun τ32 H locs hq33 hP hD hS => ?_)
                    have hτ32 := hq33
                    refine lv_iinc (v := nI (j + 1 + 1)) (lv' := [(1, .int (nI (j + 1 + 1))), (2, .long (ρj.2.2.2.2.1 - ((ρj.1 (j + 1)).2.2.2.2.2.1))), (0, .ref (ad (0, 0)))]) hx hb kd_M_oneTick_176 hl (k := 2) rfl (nI_1 (j + 1)) (by decide) rfl (fun ls hl => ?_)
                    refine lv_goto (tgt := 12) hx hb kd_M_oneTick_179 (by decide) ?_
                    exact ih_j (j + 1) τ32  _ _ _ hlt_j (by omega) (by show _ = mChS n (mChA n (mT1 σ) j) (j + 1); rw [← hI_j]; subst hτ32; simp only [mChS, if_neg c_25, if_neg c_26, if_neg c_27, if_neg c_28, if_pos c_29, if_neg c_30]) hP hD hS (lv_sub hl [2, 0] rfl)
              · exact absurd c_28 c_27
            · refine lv_aload_n hx hb kd_M_oneTick_108 rfl (lv_at hl 1 rfl) ?_
              refine lv_iload_n hx hb kd_M_oneTick_109 rfl (lv_at hl 2 rfl) ?_
              refine kx_Vi (G := gM n ad cI cZ cL) (σ := ρj) (κ := (0, 0)) (ci := 3) (fs := thisM ad n ρj) (As := [.int (nI (j + 1))]) (rest := []) (n := 1) hx hb hml hown hts hT (ct_M_wants l D hn ad cI cZ cL ρj (Nat.succ_pos j) hlt_j H.size) kw_303 kw_305 ks_15 kw_5 kw_306 (by decide +kernel) ⟨rfl, rfl⟩ ⟨Nat.le_of_ble_eq_true rfl, Nat.le_of_ble_eq_true rfl⟩ hK hP hD hS kM_0 rfl rfl rfl hl.1 (Nat.le_of_ble_eq_true rfl) kd_M_oneTick_110 rfl ⟨Nat.zero_le _, Nat.zero_le _⟩ (fun r_34 τ35 H locs hq36 hP hD hS => ?_)
              obtain ⟨⟨rfl, q_37⟩ | ⟨rfl, q_37⟩, rfl⟩ := hq36
              · refine lv_if_eq (tgt := 125) hx hb kd_M_oneTick_113 (by decide) (fun c0 => absurd c0 (by decide)) (fun _ => ?_)
                refine lv_aload_n hx hb kd_M_oneTick_116 rfl (lv_at hl 1 rfl) ?_
                refine lv_iload_n hx hb kd_M_oneTick_117 rfl (lv_at hl 2 rfl) ?_
                refine lv_iconst (v := 3) hx hb kd_M_oneTick_118 (by decide) ?_
                refine kx_Vv (G := gM n ad cI cZ cL) (σ := ρj) (κ := (0, 0)) (ci := 3) (fs := thisM ad n ρj) (As := [.int (nI (j + 1)), .int 3]) (rest := []) (n := 2) hx hb hml hown hts hT (ct_M_become l D hn ad cI cZ cL ρj (Nat.succ_pos j) hlt_j 3 H.size) kw_311 kw_313 ks_17 kw_5 kw_314 (by decide +kernel) ⟨rfl, rfl⟩ ⟨Nat.le_of_ble_eq_true rfl, Nat.le_of_ble_eq_true rfl⟩ hK hP hD hS kM_0 rfl rfl rfl hl.1 (Nat.le_of_ble_eq_true rfl) kd_M_oneTick_119 rfl ⟨Nat.zero_le _, Nat.zero_le _⟩ (fun τ39 H locs hq40 hP hD hS => ?_)
                have hτ39 := hq40
                refine lv_goto (tgt := 176) hx hb kd_M_oneTick_122 (by decide) ?_
                refine lv_iinc (v := nI (j + 1 + 1)) (lv' := [(1, .int (nI (j + 1 + 1))), (2, .long (ρj.2.2.2.2.1 - ((ρj.1 (j + 1)).2.2.2.2.2.1))), (0, .ref (ad (0, 0)))]) hx hb kd_M_oneTick_176 hl (k := 2) rfl (nI_1 (j + 1)) (by decide) rfl (fun ls hl => ?_)
                refine lv_goto (tgt := 12) hx hb kd_M_oneTick_179 (by decide) ?_
                exact ih_j (j + 1) τ39  _ _ _ hlt_j (by omega) (by show _ = mChS n (mChA n (mT1 σ) j) (j + 1); rw [← hI_j]; subst hτ39; simp only [mChS, if_neg c_25, if_neg c_26, if_pos c_27, if_pos q_37]) hP hD hS (lv_sub hl [2, 0] rfl)
              · refine lv_if_eq (tgt := 125) hx hb kd_M_oneTick_113 (by decide) (fun _ => ?_) (fun c0 => absurd (by decide) c0)
                refine lv_aload_n hx hb kd_M_oneTick_125 rfl (lv_at hl 1 rfl) ?_
                refine kx_get (ci := 3) (fs := thisM ad n ρj) (v := .ref (ad (1, 0))) hx hb hw ki_M hown hK hP kM_0 rfl rfl 2 (by decide) kw_243 rfl rfl kd_M_oneTick_126 ?_
                refine lv_iload_n hx hb kd_M_oneTick_129 rfl (lv_at hl 2 rfl) ?_
                refine kx_iald (i := j + 1) hx hb hK hP kM_1 0 rfl rfl rfl (by omega) (by decide) kd_M_oneTick_130 ?_
                refine lv_iconst (v := 2) hx hb kd_M_oneTick_131 (by decide) ?_
                refine lv_icmp_ne (tgt := 152) hx hb kd_M_oneTick_132 (by decide) (fun c_41 => ?_) (fun c_41 => ?_)
                · exact absurd c_27 c_41
                · refine lv_aload_n hx hb kd_M_oneTick_135 rfl (lv_at hl 1 rfl) ?_
                  refine lv_iload_n hx hb kd_M_oneTick_136 rfl (lv_at hl 2 rfl) ?_
                  refine kx_Vi (G := gM n ad cI cZ cL) (σ := ρj) (κ := (0, 0)) (ci := 3) (fs := thisM ad n ρj) (As := [.int (nI (j + 1))]) (rest := []) (n := 1) hx hb hml hown hts hT (ct_M_still l D hn ad cI cZ cL ρj (Nat.succ_pos j) hlt_j H.size) kw_333 kw_335 ks_21 kw_5 kw_336 (by decide +kernel) ⟨rfl, rfl⟩ ⟨Nat.le_of_ble_eq_true rfl, Nat.le_of_ble_eq_true rfl⟩ hK hP hD hS kM_0 rfl rfl rfl hl.1 (Nat.le_of_ble_eq_true rfl) kd_M_oneTick_137 rfl ⟨Nat.zero_le _, Nat.zero_le _⟩ (fun r_42 τ43 H locs hq44 hP hD hS => ?_)
                  obtain ⟨⟨rfl, q_45⟩ | ⟨rfl, q_45⟩, rfl⟩ := hq44
                  · refine lv_if_eq (tgt := 152) hx hb kd_M_oneTick_140 (by decide) (fun c0 => absurd c0 (by decide)) (fun _ => ?_)
                    refine lv_aload_n hx hb kd_M_oneTick_143 rfl (lv_at hl 1 rfl) ?_
                    refine lv_iload_n hx hb kd_M_oneTick_144 rfl (lv_at hl 2 rfl) ?_
                    refine lv_iconst (v := 1) hx hb kd_M_oneTick_145 (by decide) ?_
                    refine kx_Vv (G := gM n ad cI cZ cL) (σ := ρj) (κ := (0, 0)) (ci := 3) (fs := thisM ad n ρj) (As := [.int (nI (j + 1)), .int 1]) (rest := []) (n := 2) hx hb hml hown hts hT (ct_M_become l D hn ad cI cZ cL ρj (Nat.succ_pos j) hlt_j 1 H.size) kw_311 kw_313 ks_17 kw_5 kw_314 (by decide +kernel) ⟨rfl, rfl⟩ ⟨Nat.le_of_ble_eq_true rfl, Nat.le_of_ble_eq_true rfl⟩ hK hP hD hS kM_0 rfl rfl rfl hl.1 (Nat.le_of_ble_eq_true rfl) kd_M_oneTick_146 rfl ⟨Nat.zero_le _, Nat.zero_le _⟩ (fun τ47 H locs hq48 hP hD hS => ?_)
                    have hτ47 := hq48
                    refine lv_goto (tgt := 176) hx hb kd_M_oneTick_149 (by decide) ?_
                    refine lv_iinc (v := nI (j + 1 + 1)) (lv' := [(1, .int (nI (j + 1 + 1))), (2, .long (ρj.2.2.2.2.1 - ((ρj.1 (j + 1)).2.2.2.2.2.1))), (0, .ref (ad (0, 0)))]) hx hb kd_M_oneTick_176 hl (k := 2) rfl (nI_1 (j + 1)) (by decide) rfl (fun ls hl => ?_)
                    refine lv_goto (tgt := 12) hx hb kd_M_oneTick_179 (by decide) ?_
                    exact ih_j (j + 1) τ47  _ _ _ hlt_j (by omega) (by show _ = mChS n (mChA n (mT1 σ) j) (j + 1); rw [← hI_j]; subst hτ47; simp only [mChS, if_neg c_25, if_neg c_26, if_pos c_27, if_neg q_37, if_pos c_41, if_pos q_45]) hP hD hS (lv_sub hl [2, 0] rfl)
                  · refine lv_if_eq (tgt := 152) hx hb kd_M_oneTick_140 (by decide) (fun _ => ?_) (fun c0 => absurd (by decide) c0)
                    refine lv_aload_n hx hb kd_M_oneTick_152 rfl (lv_at hl 1 rfl) ?_
                    refine kx_get (ci := 3) (fs := thisM ad n ρj) (v := .ref (ad (1, 0))) hx hb hw ki_M hown hK hP kM_0 rfl rfl 2 (by decide) kw_243 rfl rfl kd_M_oneTick_153 ?_
                    refine lv_iload_n hx hb kd_M_oneTick_156 rfl (lv_at hl 2 rfl) ?_
                    refine kx_iald (i := j + 1) hx hb hK hP kM_1 0 rfl rfl rfl (by omega) (by decide) kd_M_oneTick_157 ?_
                    refine lv_iconst (v := 1) hx hb kd_M_oneTick_158 (by decide) ?_
                    refine lv_icmp_ne (tgt := 176) hx hb kd_M_oneTick_159 (by decide) (fun c_49 => ?_) (fun c_49 => ?_)
                    · refine lv_iinc (v := nI (j + 1 + 1)) (lv' := [(1, .int (nI (j + 1 + 1))), (2, .long (ρj.2.2.2.2.1 - ((ρj.1 (j + 1)).2.2.2.2.2.1))), (0, .ref (ad (0, 0)))]) hx hb kd_M_oneTick_176 hl (k := 2) rfl (nI_1 (j + 1)) (by decide) rfl (fun ls hl => ?_)
                      refine lv_goto (tgt := 12) hx hb kd_M_oneTick_179 (by decide) ?_
                      exact ih_j (j + 1) ρj  _ _ _ hlt_j (by omega) (by show _ = mChS n (mChA n (mT1 σ) j) (j + 1); rw [← hI_j]; simp only [mChS, if_neg c_25, if_neg c_26, if_pos c_27, if_neg q_37, if_pos c_41, if_neg q_45, if_neg c_49]) hP hD hS (lv_sub hl [2, 0] rfl)
                    · exact absurd (c_41.symm.trans c_49) (by decide)
          · refine lv_aload_n hx hb kd_M_oneTick_81 rfl (lv_at hl 1 rfl) ?_
            refine lv_iload_n hx hb kd_M_oneTick_82 rfl (lv_at hl 2 rfl) ?_
            refine kx_Vi (G := gM n ad cI cZ cL) (σ := ρj) (κ := (0, 0)) (ci := 3) (fs := thisM ad n ρj) (As := [.int (nI (j + 1))]) (rest := []) (n := 1) hx hb hml hown hts hT (ct_M_wants l D hn ad cI cZ cL ρj (Nat.succ_pos j) hlt_j H.size) kw_303 kw_305 ks_15 kw_5 kw_306 (by decide +kernel) ⟨rfl, rfl⟩ ⟨Nat.le_of_ble_eq_true rfl, Nat.le_of_ble_eq_true rfl⟩ hK hP hD hS kM_0 rfl rfl rfl hl.1 (Nat.le_of_ble_eq_true rfl) kd_M_oneTick_83 rfl ⟨Nat.zero_le _, Nat.zero_le _⟩ (fun r_50 τ51 H locs hq52 hP hD hS => ?_)
            obtain ⟨⟨rfl, q_53⟩ | ⟨rfl, q_53⟩, rfl⟩ := hq52
            · refine lv_if_ne (tgt := 98) hx hb kd_M_oneTick_86 (by decide) (fun _ => ?_) (fun c0 => absurd c0 (by decide))
              refine lv_aload_n hx hb kd_M_oneTick_98 rfl (lv_at hl 1 rfl) ?_
              refine kx_get (ci := 3) (fs := thisM ad n ρj) (v := .ref (ad (1, 0))) hx hb hw ki_M hown hK hP kM_0 rfl rfl 2 (by decide) kw_243 rfl rfl kd_M_oneTick_99 ?_
              refine lv_iload_n hx hb kd_M_oneTick_102 rfl (lv_at hl 2 rfl) ?_
              refine kx_iald (i := j + 1) hx hb hK hP kM_1 0 rfl rfl rfl (by omega) (by decide) kd_M_oneTick_103 ?_
              refine lv_iconst (v := 2) hx hb kd_M_oneTick_104 (by decide) ?_
              refine lv_icmp_ne (tgt := 125) hx hb kd_M_oneTick_105 (by decide) (fun c_54 => ?_) (fun c_54 => ?_)
              · refine lv_aload_n hx hb kd_M_oneTick_125 rfl (lv_at hl 1 rfl) ?_
                refine kx_get (ci := 3) (fs := thisM ad n ρj) (v := .ref (ad (1, 0))) hx hb hw ki_M hown hK hP kM_0 rfl rfl 2 (by decide) kw_243 rfl rfl kd_M_oneTick_126 ?_
                refine lv_iload_n hx hb kd_M_oneTick_129 rfl (lv_at hl 2 rfl) ?_
                refine kx_iald (i := j + 1) hx hb hK hP kM_1 0 rfl rfl rfl (by omega) (by decide) kd_M_oneTick_130 ?_
                refine lv_iconst (v := 2) hx hb kd_M_oneTick_131 (by decide) ?_
                refine lv_icmp_ne (tgt := 152) hx hb kd_M_oneTick_132 (by decide) (fun c_55 => ?_) (fun c_55 => ?_)
                · refine lv_aload_n hx hb kd_M_oneTick_152 rfl (lv_at hl 1 rfl) ?_
                  refine kx_get (ci := 3) (fs := thisM ad n ρj) (v := .ref (ad (1, 0))) hx hb hw ki_M hown hK hP kM_0 rfl rfl 2 (by decide) kw_243 rfl rfl kd_M_oneTick_153 ?_
                  refine lv_iload_n hx hb kd_M_oneTick_156 rfl (lv_at hl 2 rfl) ?_
                  refine kx_iald (i := j + 1) hx hb hK hP kM_1 0 rfl rfl rfl (by omega) (by decide) kd_M_oneTick_157 ?_
                  refine lv_iconst (v := 1) hx hb kd_M_oneTick_158 (by decide) ?_
                  refine lv_icmp_ne (tgt := 176) hx hb kd_M_oneTick_159 (by decide) (fun c_56 => ?_) (fun c_56 => ?_)
                  · refine lv_iinc (v := nI (j + 1 + 1)) (lv' := [(1, .int (nI (j + 1 + 1))), (2, .long (ρj.2.2.2.2.1 - ((ρj.1 (j + 1)).2.2.2.2.2.1))), (0, .ref (ad (0, 0)))]) hx hb kd_M_oneTick_176 hl (k := 2) rfl (nI_1 (j + 1)) (by decide) rfl (fun ls hl => ?_)
                    refine lv_goto (tgt := 12) hx hb kd_M_oneTick_179 (by decide) ?_
                    exact ih_j (j + 1) ρj  _ _ _ hlt_j (by omega) (by show _ = mChS n (mChA n (mT1 σ) j) (j + 1); rw [← hI_j]; simp only [mChS, if_neg c_25, if_pos c_26, if_pos q_53, if_neg c_54, if_neg c_55, if_neg c_56]) hP hD hS (lv_sub hl [2, 0] rfl)
                  · exact absurd (c_26.symm.trans c_56) (by decide)
                · exact absurd (c_26.symm.trans c_55) (by decide)
              · exact absurd (c_26.symm.trans c_54) (by decide)
            · refine lv_if_ne (tgt := 98) hx hb kd_M_oneTick_86 (by decide) (fun c0 => absurd rfl c0) (fun _ => ?_)
              refine lv_aload_n hx hb kd_M_oneTick_89 rfl (lv_at hl 1 rfl) ?_
              refine lv_iload_n hx hb kd_M_oneTick_90 rfl (lv_at hl 2 rfl) ?_
              refine lv_iconst (v := 2) hx hb kd_M_oneTick_91 (by decide) ?_
              refine kx_Vv (G := gM n ad cI cZ cL) (σ := ρj) (κ := (0, 0)) (ci := 3) (fs := thisM ad n ρj) (As := [.int (nI (j + 1)), .int 2]) (rest := []) (n := 2) hx hb hml hown hts hT (ct_M_become l D hn ad cI cZ cL ρj (Nat.succ_pos j) hlt_j 2 H.size) kw_311 kw_313 ks_17 kw_5 kw_314 (by decide +kernel) ⟨rfl, rfl⟩ ⟨Nat.le_of_ble_eq_true rfl, Nat.le_of_ble_eq_true rfl⟩ hK hP hD hS kM_0 rfl rfl rfl hl.1 (Nat.le_of_ble_eq_true rfl) kd_M_oneTick_92 rfl ⟨Nat.zero_le _, Nat.zero_le _⟩ (fun τ58 H locs hq59 hP hD hS => ?_)
              have hτ58 := hq59
              refine lv_goto (tgt := 176) hx hb kd_M_oneTick_95 (by decide) ?_
              refine lv_iinc (v := nI (j + 1 + 1)) (lv' := [(1, .int (nI (j + 1 + 1))), (2, .long (ρj.2.2.2.2.1 - ((ρj.1 (j + 1)).2.2.2.2.2.1))), (0, .ref (ad (0, 0)))]) hx hb kd_M_oneTick_176 hl (k := 2) rfl (nI_1 (j + 1)) (by decide) rfl (fun ls hl => ?_)
              refine lv_goto (tgt := 12) hx hb kd_M_oneTick_179 (by decide) ?_
              exact ih_j (j + 1) τ58  _ _ _ hlt_j (by omega) (by show _ = mChS n (mChA n (mT1 σ) j) (j + 1); rw [← hI_j]; subst hτ58; simp only [mChS, if_neg c_25, if_pos c_26, if_neg q_53]) hP hD hS (lv_sub hl [2, 0] rfl)
        · refine lv_lload_n hx hb kd_M_oneTick_42 rfl (lv_at hl 0 rfl) ?_
          refine lv_ldc2 (v := 20) hx hb hown (hw _ kw_332) kd_M_oneTick_43 ?_
          refine W.lcmp hx hb kd_M_oneTick_46 ?_
          refine lv_if_lt (tgt := 71) hx hb kd_M_oneTick_47 (by decide) (fun c_60 => ?_) (fun c_60 => ?_)
          · have c_60 := (lg_cmp_lt _ _).mp c_60
            refine lv_aload_n hx hb kd_M_oneTick_71 rfl (lv_at hl 1 rfl) ?_
            refine kx_get (ci := 3) (fs := thisM ad n ρj) (v := .ref (ad (1, 0))) hx hb hw ki_M hown hK hP kM_0 rfl rfl 2 (by decide) kw_243 rfl rfl kd_M_oneTick_72 ?_
            refine lv_iload_n hx hb kd_M_oneTick_75 rfl (lv_at hl 2 rfl) ?_
            refine kx_iald (i := j + 1) hx hb hK hP kM_1 0 rfl rfl rfl (by omega) (by decide) kd_M_oneTick_76 ?_
            refine lv_iconst (v := 3) hx hb kd_M_oneTick_77 (by decide) ?_
            refine lv_icmp_ne (tgt := 98) hx hb kd_M_oneTick_78 (by decide) (fun c_61 => ?_) (fun c_61 => ?_)
            · refine lv_aload_n hx hb kd_M_oneTick_98 rfl (lv_at hl 1 rfl) ?_
              refine kx_get (ci := 3) (fs := thisM ad n ρj) (v := .ref (ad (1, 0))) hx hb hw ki_M hown hK hP kM_0 rfl rfl 2 (by decide) kw_243 rfl rfl kd_M_oneTick_99 ?_
              refine lv_iload_n hx hb kd_M_oneTick_102 rfl (lv_at hl 2 rfl) ?_
              refine kx_iald (i := j + 1) hx hb hK hP kM_1 0 rfl rfl rfl (by omega) (by decide) kd_M_oneTick_103 ?_
              refine lv_iconst (v := 2) hx hb kd_M_oneTick_104 (by decide) ?_
              refine lv_icmp_ne (tgt := 125) hx hb kd_M_oneTick_105 (by decide) (fun c_62 => ?_) (fun c_62 => ?_)
              · refine lv_aload_n hx hb kd_M_oneTick_125 rfl (lv_at hl 1 rfl) ?_
                refine kx_get (ci := 3) (fs := thisM ad n ρj) (v := .ref (ad (1, 0))) hx hb hw ki_M hown hK hP kM_0 rfl rfl 2 (by decide) kw_243 rfl rfl kd_M_oneTick_126 ?_
                refine lv_iload_n hx hb kd_M_oneTick_129 rfl (lv_at hl 2 rfl) ?_
                refine kx_iald (i := j + 1) hx hb hK hP kM_1 0 rfl rfl rfl (by omega) (by decide) kd_M_oneTick_130 ?_
                refine lv_iconst (v := 2) hx hb kd_M_oneTick_131 (by decide) ?_
                refine lv_icmp_ne (tgt := 152) hx hb kd_M_oneTick_132 (by decide) (fun c_63 => ?_) (fun c_63 => ?_)
                · refine lv_aload_n hx hb kd_M_oneTick_152 rfl (lv_at hl 1 rfl) ?_
                  refine kx_get (ci := 3) (fs := thisM ad n ρj) (v := .ref (ad (1, 0))) hx hb hw ki_M hown hK hP kM_0 rfl rfl 2 (by decide) kw_243 rfl rfl kd_M_oneTick_153 ?_
                  refine lv_iload_n hx hb kd_M_oneTick_156 rfl (lv_at hl 2 rfl) ?_
                  refine kx_iald (i := j + 1) hx hb hK hP kM_1 0 rfl rfl rfl (by omega) (by decide) kd_M_oneTick_157 ?_
                  refine lv_iconst (v := 1) hx hb kd_M_oneTick_158 (by decide) ?_
                  refine lv_icmp_ne (tgt := 176) hx hb kd_M_oneTick_159 (by decide) (fun c_64 => ?_) (fun c_64 => ?_)
                  · refine lv_iinc (v := nI (j + 1 + 1)) (lv' := [(1, .int (nI (j + 1 + 1))), (2, .long (ρj.2.2.2.2.1 - ((ρj.1 (j + 1)).2.2.2.2.2.1))), (0, .ref (ad (0, 0)))]) hx hb kd_M_oneTick_176 hl (k := 2) rfl (nI_1 (j + 1)) (by decide) rfl (fun ls hl => ?_)
                    refine lv_goto (tgt := 12) hx hb kd_M_oneTick_179 (by decide) ?_
                    exact ih_j (j + 1) ρj  _ _ _ hlt_j (by omega) (by show _ = mChS n (mChA n (mT1 σ) j) (j + 1); rw [← hI_j]; simp only [mChS, if_pos c_25, if_pos c_60, if_neg c_61, if_neg c_62, if_neg c_63, if_neg c_64]) hP hD hS (lv_sub hl [2, 0] rfl)
                  · exact absurd (c_25.symm.trans c_64) (by decide)
                · exact absurd (c_25.symm.trans c_63) (by decide)
              · exact absurd (c_25.symm.trans c_62) (by decide)
            · exact absurd (c_25.symm.trans c_61) (by decide)
          · have c_60 := fun h => c_60 ((lg_cmp_lt _ _).mpr h)
            refine lv_aload_n hx hb kd_M_oneTick_50 rfl (lv_at hl 1 rfl) ?_
            refine lv_iload_n hx hb kd_M_oneTick_51 rfl (lv_at hl 2 rfl) ?_
            refine lv_aload_n hx hb kd_M_oneTick_52 rfl (lv_at hl 1 rfl) ?_
            refine lv_iload_n hx hb kd_M_oneTick_53 rfl (lv_at hl 2 rfl) ?_
            refine kx_Vi (G := gM n ad cI cZ cL) (σ := ρj) (κ := (0, 0)) (ci := 3) (fs := thisM ad n ρj) (As := [.int (nI (j + 1))]) (rest := [.int (nI (j + 1)), .ref (ad (0, 0))]) (n := 1) hx hb hml hown hts hT (ct_M_wants l D hn ad cI cZ cL ρj (Nat.succ_pos j) hlt_j H.size) kw_303 kw_305 ks_15 kw_5 kw_306 (by decide +kernel) ⟨rfl, rfl⟩ ⟨Nat.le_of_ble_eq_true rfl, Nat.le_of_ble_eq_true rfl⟩ hK hP hD hS kM_0 rfl rfl rfl hl.1 (Nat.le_of_ble_eq_true rfl) kd_M_oneTick_54 rfl ⟨Nat.zero_le _, Nat.zero_le _⟩ (fun r_65 τ66 H locs hq67 hP hD hS => ?_)
            obtain ⟨⟨rfl, q_68⟩ | ⟨rfl, q_68⟩, rfl⟩ := hq67
            · refine lv_if_eq (tgt := 64) hx hb kd_M_oneTick_57 (by decide) (fun c0 => absurd c0 (by decide)) (fun _ => ?_)
              refine lv_iconst (v := 3) hx hb kd_M_oneTick_60 (by decide) ?_
              refine lv_goto (tgt := 65) hx hb kd_M_oneTick_61 (by decide) ?_
              refine kx_Vv (G := gM n ad cI cZ cL) (σ := ρj) (κ := (0, 0)) (ci := 3) (fs := thisM ad n ρj) (As := [.int (nI (j + 1)), .int 3]) (rest := []) (n := 2) hx hb hml hown hts hT (ct_M_become l D hn ad cI cZ cL ρj (Nat.succ_pos j) hlt_j 3 H.size) kw_311 kw_313 ks_17 kw_5 kw_314 (by decide +kernel) ⟨rfl, rfl⟩ ⟨Nat.le_of_ble_eq_true rfl, Nat.le_of_ble_eq_true rfl⟩ hK hP hD hS kM_0 rfl rfl rfl hl.1 (Nat.le_of_ble_eq_true rfl) kd_M_oneTick_65 rfl ⟨Nat.zero_le _, Nat.zero_le _⟩ (fun τ70 H locs hq71 hP hD hS => ?_)
              have hτ70 := hq71
              refine lv_goto (tgt := 176) hx hb kd_M_oneTick_68 (by decide) ?_
              refine lv_iinc (v := nI (j + 1 + 1)) (lv' := [(1, .int (nI (j + 1 + 1))), (2, .long (ρj.2.2.2.2.1 - ((ρj.1 (j + 1)).2.2.2.2.2.1))), (0, .ref (ad (0, 0)))]) hx hb kd_M_oneTick_176 hl (k := 2) rfl (nI_1 (j + 1)) (by decide) rfl (fun ls hl => ?_)
              refine lv_goto (tgt := 12) hx hb kd_M_oneTick_179 (by decide) ?_
              exact ih_j (j + 1) τ70  _ _ _ hlt_j (by omega) (by show _ = mChS n (mChA n (mT1 σ) j) (j + 1); rw [← hI_j]; subst hτ70; simp only [mChS, if_pos c_25, if_neg c_60, if_pos q_68]) hP hD hS (lv_sub hl [2, 0] rfl)
            · refine lv_if_eq (tgt := 64) hx hb kd_M_oneTick_57 (by decide) (fun _ => ?_) (fun c0 => absurd (by decide) c0)
              refine lv_iconst (v := 2) hx hb kd_M_oneTick_64 (by decide) ?_
              refine kx_Vv (G := gM n ad cI cZ cL) (σ := ρj) (κ := (0, 0)) (ci := 3) (fs := thisM ad n ρj) (As := [.int (nI (j + 1)), .int 2]) (rest := []) (n := 2) hx hb hml hown hts hT (ct_M_become l D hn ad cI cZ cL ρj (Nat.succ_pos j) hlt_j 2 H.size) kw_311 kw_313 ks_17 kw_5 kw_314 (by decide +kernel) ⟨rfl, rfl⟩ ⟨Nat.le_of_ble_eq_true rfl, Nat.le_of_ble_eq_true rfl⟩ hK hP hD hS kM_0 rfl rfl rfl hl.1 (Nat.le_of_ble_eq_true rfl) kd_M_oneTick_65 rfl ⟨Nat.zero_le _, Nat.zero_le _⟩ (fun τ73 H locs hq74 hP hD hS => ?_)
              have hτ73 := hq74
              refine lv_goto (tgt := 176) hx hb kd_M_oneTick_68 (by decide) ?_
              refine lv_iinc (v := nI (j + 1 + 1)) (lv' := [(1, .int (nI (j + 1 + 1))), (2, .long (ρj.2.2.2.2.1 - ((ρj.1 (j + 1)).2.2.2.2.2.1))), (0, .ref (ad (0, 0)))]) hx hb kd_M_oneTick_176 hl (k := 2) rfl (nI_1 (j + 1)) (by decide) rfl (fun ls hl => ?_)
              refine lv_goto (tgt := 12) hx hb kd_M_oneTick_179 (by decide) ?_
              exact ih_j (j + 1) τ73  _ _ _ hlt_j (by omega) (by show _ = mChS n (mChA n (mT1 σ) j) (j + 1); rw [← hI_j]; subst hτ73; simp only [mChS, if_pos c_25, if_neg c_60, if_neg q_68]) hP hD hS (lv_sub hl [2, 0] rfl)
  exact loop (n + 1) 0 τ1  _ _ _ (Nat.zero_le _) (by omega) hτ1.symm hP hD hS (lv_sub hl [1, 0] rfl)
