/-! time stays where it is in the halves of a tick -/
theorem now_cmT (σ : CS) (i : Nat) (x : Int32) : (cmT σ i x).2.2.1 = σ.2.2.1 := by unfold cmT; dsimp only; split <;> split <;> rfl
theorem now_wkU (σ : CS) (i : Nat) : (wkU σ i).2.2.1 = σ.2.2.1 := now_cmT σ i 4
theorem now_hrS (σ : CS) (i : Nat) : (hrS σ i).2.2.1 = σ.2.2.1 := by unfold hrS; dsimp only; split; · exact now_wkU _ i
                                                                     · rfl
theorem now_rwL (σ : CS) (i k : Nat) : (rwL σ i k).1.2.2.1 = σ.2.2.1 := by
  induction k with
  | zero => rfl
  | succ k ih => unfold rwL; split; · exact ih
                 · split; · exact ih
                   · exact (now_hrS _ _).trans ih
theorem now_rwS (n : Nat) (σ : CS) (i : Nat) : (rwS n σ i).2.2.1 = σ.2.2.1 := by
  unfold rwS
  split
  · exact now_rwL σ i _
  · exact now_rwL σ i _
theorem now_chS (n : Nat) (σ : CS) (i : Nat) : (chS n σ i).2.2.1 = σ.2.2.1 := by
  unfold chS
  repeat' split
  all_goals first | rfl | exact now_cmT _ _ _
theorem now_chA (n : Nat) (σ : CS) (k : Nat) : (chA n σ k).2.2.1 = σ.2.2.1 := by
  induction k with
  | zero => rfl
  | succ k ih => exact (now_chS n _ k).trans ih
theorem now_sdS (n : Nat) (σ : CS) (i : Nat) : (sdS n σ i).2.2.1 = σ.2.2.1 := by
  unfold sdS
  repeat' split
  all_goals first | rfl | exact now_rwS n σ i
theorem now_sdA (n : Nat) (σ : CS) (k : Nat) : (sdA n σ k).2.2.1 = σ.2.2.1 := by
  induction k with
  | zero => rfl
  | succ k ih => exact (now_sdS n _ k).trans ih
/-- a tick: the time is set, then the two halves -/
def tkS (n : Nat) (σ : CS) (t : Int64) : CS := sdA n (chA n (σ.1, σ.2.1, t, σ.2.2.2) n) n
theorem now_tkS (n : Nat) (σ : CS) (t : Int64) : (tkS n σ t).2.2.1 = t := (now_sdA n _ n).trans (now_chA n _ n)
/-- so many ticks, until all sleep -/
def goR (n : Nat) : Nat → CS → CS
  | 0, σ => σ
  | d + 1, σ => if slp n σ then σ else goR n d (tkS n σ (σ.2.2.1 + 1))
def fnT (σ : CS) (t : Int64) : CS := (σ.1, σ.2.1, t, σ.2.2.2)
/-- time goes on to t -/
def goT (n : Nat) (σ : CS) (t : Int64) : CS := fnT (goR n (t - σ.2.2.1).toInt.toNat σ) t
theorem goR_y {n d : Nat} {σ : CS} (h : slp n σ) : goR n (d + 1) σ = σ := if_pos h
theorem goR_n {n d : Nat} {σ : CS} (h : ¬ slp n σ) : goR n (d + 1) σ = goR n d (tkS n σ (σ.2.2.1 + 1)) := if_neg h
/-- a time that is allowed is so many ticks on -/
theorem okT_d {now t : Int64} {a : Nat} (h : okT now t) (ha : now = lN a) (hA : a < 2 ^ 30) : ∃ d, d ≤ 1000 ∧ t = lN (a + d) ∧ (t - now).toInt.toNat = d := by
  subst ha
  obtain ⟨h1, h2⟩ := h
  have z : (lN a).toInt = a := lN_toInt (by omega)
  rw [Int64.lt_iff_toInt_lt] at h1
  have h3 : (0 : Int64).toInt = 0 := rfl
  obtain ⟨k, hk, rfl⟩ := pk_lOf (x := t) (by rw [Int64.lt_iff_toInt_lt]; omega)
  have zk : (lN k).toInt = k := pk_lT hk
  have hak : a ≤ k := by omega
  rw [lN_sub hak] at h2 ⊢
  have zd : (lN (k - a)).toInt = ((k - a : Nat) : Int) := pk_lT (by omega)
  rw [Int64.lt_iff_toInt_lt, zd] at h2
  have h4 : (1000 : Int64).toInt = 1000 := rfl
  exact ⟨k - a, by omega, by rw [Nat.add_sub_cancel' hak], by rw [zd]; omega⟩
theorem go_pos {a d : Nat} {t : Int64} (htt : t = lN (a + d)) (had : a + d < 2 ^ 30 + 2000) (c : ¬ 0 < lg_cmp (lN (a + 1)) t) : 0 < d := by
  rcases Nat.eq_zero_or_pos d with h | h
  · exact absurd ((lg_cmp_gt _ _).mpr (by rw [htt, h]; exact (lN_lt (by omega) (by omega)).mpr (by omega))) c
  · exact h
set_option maxHeartbeats 4000000 in
set_option maxRecDepth 100000 in
theorem ct_S_goOn (l : Launch) (D : va_G) {n : Nat} (hn : 1 ≤ n ∧ n ≤ 64) (ad : Nat × Nat → Nat) (cN cB cL : ClassId) (σ : CS) (t : Int64) (hok : okT σ.2.2.1 t) {a : Nat} (ha : σ.2.2.1 = lN a) (hA : a < 2 ^ 30) (sz : Nat) : Met l ky_S_goOn (km ky_S_goOn kc_S_goOn 5 none) ({ frames := 6, cells := 0, slots := 0, locals := 134 }) (cPre D n ad cN cB cL σ [.ref (ad (0, 0)), .long t] sz) (cQv D n ad cN cB cL sz (fun τ => goT n σ t = τ)) 0 0 (kA (kC n) ad sz) := by
  refine Met.ofW (cc := kc_S_goOn) (maxL := 5) (ret := none) (by decide) rfl ?_
  intro p e s m args below meth c s₁ B hml hv
  obtain ⟨rfl, hsz, hP, hK, hD0⟩ := hv
  have hx := B.exec
  have hb := B.bytes
  have hr := B.returns
  have hts := atoms_spec (ws := km ky_S_goOn kc_S_goOn 5 none) B.pre
  have hT : ∀ w ∈ kB_l, w ∈ km ky_S_goOn kc_S_goOn 5 none := fun w h => List.mem_cons_of_mem _ h
  have hw := fun w h => hts w (hT w h)
  have hown : s.vm.findClass kR_S = some m.cls := findClass_of_methodNamed B.named
  have hlocks := B.notSynchronized
  subst hsz
  have hD : va_D (kA (kC n) ad s.heap.size) (kW (kC n) ad (gC n ad cN cB cL σ)) := kD_any _ hD0
  have hS : va_S (kA (kC n) ad s.heap.size) s.heap s.heap [] := va_S.rf
  have hl := lv_entry ([.ref (ad (0, 0)), .long t]) (n := 5) (Nat.le_of_ble_eq_true rfl)
  rw [lg_entry_eq]
  generalize (lg_sl ([.ref (ad (0, 0)), .long t]) ++ List.replicate (5 - (lg_sl ([.ref (ad (0, 0)), .long t])).length) Slot.unset).toArray = ls at hl ⊢
  have hl : lv_has ls 5 [(0, .ref (ad (0, 0))), (1, .long t)] := hl
  refine lv_aload_n hx hb kd_S_goOn_0 rfl (lv_at hl 0 rfl) ?_
  refine kx_get (ci := 2) (fs := thisL ad σ) (v := .long σ.2.2.1) hx hb hw ki_S hown hK hP kC_0 rfl rfl 2 (by decide) kw_92 rfl rfl kd_S_goOn_1 ?_
  refine lv_lconst (v := 1) hx hb kd_S_goOn_4 (by decide) ?_
  refine lv_ladd hx hb kd_S_goOn_5 ?_
  rw [ha, lN_1]
  refine lv_lstore_n (lv' := [(3, .long (lN (a + 1))), (0, .ref (ad (0, 0))), (1, .long t)]) hx hb kd_S_goOn_6 rfl hl (by decide) rfl (fun ls hl => ?_)
  obtain ⟨d0, hd0, ht0, he0⟩ := okT_d hok ha hA
  have loop : ∀ (q a d : Nat) (ρ : CS) (H : Heap) (locs : List Loc) (ls : Array Slot), d < q → ρ.2.2.1 = lN a → t = lN (a + d) → a + d < 2 ^ 30 + 2000 → fnT (goR n d ρ) t = fnT (goR n d0 σ) t → va_P D kCl (kW (kC n) ad (gC n ad cN cB cL ρ)) H → va_D (kA (kC n) ad s.heap.size) (kW (kC n) ad (gC n ad cN cB cL ρ)) → va_S (kA (kC n) ad s.heap.size) s.heap H locs → lv_has ls 5 [(0, .ref (ad (0, 0))), (1, .long t), (3, .long (lN (a + 1)))] → W p l e (headSpec (km ky_S_goOn kc_S_goOn 5 none) ({ frames := 6, cells := 0, slots := 0, locals := 134 })).room s m [.ref (ad (0, 0)), .long t].toArray below meth c H locs 0 0 (MQ below (cQv D n ad cN cB cL s.heap.size (fun τ => goT n σ t = τ)) [.ref (ad (0, 0)), .long t].toArray s 0 0 (kA (kC n) ad s.heap.size)) (F0 m 7 ls []) := by
    intro q
    induction q with
    | zero => intro a d ρ H locs ls hq; exact absurd hq (by omega)
    | succ q ih =>
      intro a d ρ H locs ls hq hρ htt had hF hP hD hS hl
      refine lv_lload_n hx hb kd_S_goOn_7 rfl (lv_at hl 2 rfl) ?_
      refine lv_lload_n hx hb kd_S_goOn_8 rfl (lv_at hl 1 rfl) ?_
      refine W.lcmp hx hb kd_S_goOn_9 ?_
      refine lv_if_gt (tgt := 40) hx hb kd_S_goOn_10 (by decide) (fun c_1 => ?_) (fun c_1 => ?_)
      · have hd : d = 0 := by have z := (lg_cmp_gt _ _).mp c_1; rw [htt, lN_lt (by omega) (by omega)] at z; omega
        subst hd
        refine lv_aload_n hx hb kd_S_goOn_40 rfl (lv_at hl 0 rfl) ?_
        refine lv_lload_n hx hb kd_S_goOn_41 rfl (lv_at hl 1 rfl) ?_
        refine kx_put (ci := 2) (fs := thisL ad ρ) (v := .long t) (g2 := gC n ad cN cB cL ((ρ.1, ρ.2.1, t, ρ.2.2.2))) hx hb hw ki_S kt_S ko_S kn_S hown hK hP hD hS kC_0 rfl rfl 2 (by decide) kw_92 rfl rfl rfl rfl (Nat.le_of_ble_eq_true rfl) (gC_S rfl) kd_S_goOn_42 (fun H locs hP hD hS => ?_)
        generalize hτ2 : (ρ.1, ρ.2.1, t, ρ.2.2.2) = τ2 at hP hD
        exact W.vret hx hb hr (fun t ht hW => ⟨⟨τ2, rfl, by unfold goT; rw [he0, ← hF, ← hτ2]; rfl, by rw [ht]; exact hP, va_K.moved hW.alike hK, hD.weaken (fun _ _ _ _ => trivial)⟩, hS.F ht⟩) hS.2.2 kd_S_goOn_45
      · have hd : 0 < d := go_pos htt had c_1
        obtain ⟨d, rfl⟩ : ∃ d2, d = d2 + 1 := ⟨d - 1, by omega⟩
        refine lv_aload_n hx hb kd_S_goOn_13 rfl (lv_at hl 0 rfl) ?_
        refine kx_Vi (G := gC n ad cN cB cL) (σ := ρ) (κ := (0, 0)) (ci := 2) (fs := thisL ad ρ) (As := []) (rest := []) (n := 0) hx hb hml hown hts hT (ct_S_sleeps l D hn ad cN cB cL ρ  H.size) kw_144 kw_145 kw_146 kw_1 kw_147 (by decide +kernel) ⟨rfl, rfl⟩ ⟨Nat.le_of_ble_eq_true rfl, Nat.le_of_ble_eq_true rfl⟩ hK hP hD hS kC_0 rfl rfl rfl hl.1 (Nat.le_of_ble_eq_true rfl) kd_S_goOn_14 rfl ⟨Nat.zero_le _, Nat.zero_le _⟩ (fun r_3 τ4 H locs hq5 hP hD hS => ?_)
        obtain ⟨⟨rfl, q_6⟩ | ⟨rfl, q_6⟩, rfl⟩ := hq5
        · refine lv_if_ne (tgt := 40) hx hb kd_S_goOn_17 (by decide) (fun _ => ?_) (fun c0 => absurd c0 (by decide))
          refine lv_aload_n hx hb kd_S_goOn_40 rfl (lv_at hl 0 rfl) ?_
          refine lv_lload_n hx hb kd_S_goOn_41 rfl (lv_at hl 1 rfl) ?_
          refine kx_put (ci := 2) (fs := thisL ad ρ) (v := .long t) (g2 := gC n ad cN cB cL ((ρ.1, ρ.2.1, t, ρ.2.2.2))) hx hb hw ki_S kt_S ko_S kn_S hown hK hP hD hS kC_0 rfl rfl 2 (by decide) kw_92 rfl rfl rfl rfl (Nat.le_of_ble_eq_true rfl) (gC_S rfl) kd_S_goOn_42 (fun H locs hP hD hS => ?_)
          generalize hτ7 : (ρ.1, ρ.2.1, t, ρ.2.2.2) = τ7 at hP hD
          exact W.vret hx hb hr (fun t ht hW => ⟨⟨τ7, rfl, by unfold goT; rw [he0, ← hF, goR_y q_6, ← hτ7]; rfl, by rw [ht]; exact hP, va_K.moved hW.alike hK, hD.weaken (fun _ _ _ _ => trivial)⟩, hS.F ht⟩) hS.2.2 kd_S_goOn_45
        · refine lv_if_ne (tgt := 40) hx hb kd_S_goOn_17 (by decide) (fun c0 => absurd rfl c0) (fun _ => ?_)
          refine lv_aload_n hx hb kd_S_goOn_20 rfl (lv_at hl 0 rfl) ?_
          refine lv_lload_n hx hb kd_S_goOn_21 rfl (lv_at hl 2 rfl) ?_
          refine kx_put (ci := 2) (fs := thisL ad ρ) (v := .long (lN (a + 1))) (g2 := gC n ad cN cB cL ((ρ.1, ρ.2.1, lN (a + 1), ρ.2.2.2))) hx hb hw ki_S kt_S ko_S kn_S hown hK hP hD hS kC_0 rfl rfl 2 (by decide) kw_92 rfl rfl rfl rfl (Nat.le_of_ble_eq_true rfl) (gC_S rfl) kd_S_goOn_22 (fun H locs hP hD hS => ?_)
          generalize hτ8 : (ρ.1, ρ.2.1, lN (a + 1), ρ.2.2.2) = τ8 at hP hD
          refine lv_aload_n hx hb kd_S_goOn_25 rfl (lv_at hl 0 rfl) ?_
          refine kx_Vv (G := gC n ad cN cB cL) (σ := τ8) (κ := (0, 0)) (ci := 2) (fs := thisL ad τ8) (As := []) (rest := []) (n := 0) hx hb hml hown hts hT (ct_S_changeStates l D hn ad cN cB cL τ8  H.size) kw_148 kw_150 ks_5 kw_1 kw_151 (by decide +kernel) ⟨rfl, rfl⟩ ⟨Nat.le_of_ble_eq_true rfl, Nat.le_of_ble_eq_true rfl⟩ hK hP hD hS kC_0 rfl rfl rfl hl.1 (Nat.le_of_ble_eq_true rfl) kd_S_goOn_26 rfl ⟨Nat.zero_le _, Nat.zero_le _⟩ (fun τ10 H locs hq11 hP hD hS => ?_)
          have hτ10 := hq11
          refine lv_aload_n hx hb kd_S_goOn_29 rfl (lv_at hl 0 rfl) ?_
          refine kx_Vv (G := gC n ad cN cB cL) (σ := τ10) (κ := (0, 0)) (ci := 2) (fs := thisL ad τ10) (As := []) (rest := []) (n := 0) hx hb hml hown hts hT (ct_S_sendRows l D hn ad cN cB cL τ10  H.size) kw_163 kw_165 ks_8 kw_1 kw_166 (by decide +kernel) ⟨rfl, rfl⟩ ⟨Nat.le_of_ble_eq_true rfl, Nat.le_of_ble_eq_true rfl⟩ hK hP hD hS kC_0 rfl rfl rfl hl.1 (Nat.le_of_ble_eq_true rfl) kd_S_goOn_30 rfl ⟨Nat.zero_le _, Nat.zero_le _⟩ (fun τ13 H locs hq14 hP hD hS => ?_)
          have hτ13 := hq14
          refine lv_lload_n hx hb kd_S_goOn_33 rfl (lv_at hl 2 rfl) ?_
          refine lv_lconst (v := 1) hx hb kd_S_goOn_34 (by decide) ?_
          refine lv_ladd hx hb kd_S_goOn_35 ?_
          rw [lN_1]
          refine lv_lstore_n (lv' := [(3, .long (lN (a + 1 + 1))), (0, .ref (ad (0, 0))), (1, .long t)]) hx hb kd_S_goOn_36 rfl hl (by decide) rfl (fun ls hl => ?_)
          refine lv_goto (tgt := 7) hx hb kd_S_goOn_37 (by decide) ?_
          exact ih (a + 1) d _ _ _ _ (by omega) (by rw [← hτ13, ← hτ10, ← hτ8]; exact now_sdA n _ n |>.trans (now_chA n _ n)) (by rw [htt]; congr 1; omega) (by omega) (by rw [← hF, goR_n q_6]; congr 2; rw [← hτ13, ← hτ10, ← hτ8, hρ, lN_1]; rfl) hP hD hS (lv_sub hl [1, 2, 0] rfl)
  exact loop (d0 + 1) a d0 σ _ _ _ (by omega) ha ht0 (by omega) rfl hP hD hS (lv_sub hl [1, 2, 0] rfl)
