theorem sw12 {x : Int32} (h0 : ¬ x = 0) (h1 : ¬ x = 1) (h2 : ¬ x = 2) (h3 : ¬ x = 3) (h4 : ¬ x = 4) (h5 : ¬ x = 5) (h6 : ¬ x = 6) (h7 : ¬ x = 7) (h8 : ¬ x = 8) (h9 : ¬ x = 9) (h10 : ¬ x = 10) (h11 : ¬ x = 11) : x.toInt < 0 ∨ 11 < x.toInt := by
  apply Decidable.byContradiction
  intro h
  have : x.toInt = 0 ∨ x.toInt = 1 ∨ x.toInt = 2 ∨ x.toInt = 3 ∨ x.toInt = 4 ∨ x.toInt = 5 ∨ x.toInt = 6 ∨ x.toInt = 7 ∨ x.toInt = 8 ∨ x.toInt = 9 ∨ x.toInt = 10 ∨ x.toInt = 11 := by omega
  rcases this with e | e | e | e | e | e | e | e | e | e | e | e
  · exact h0 (Int32.toInt_inj.mp (by rw [e]; rfl))
  · exact h1 (Int32.toInt_inj.mp (by rw [e]; rfl))
  · exact h2 (Int32.toInt_inj.mp (by rw [e]; rfl))
  · exact h3 (Int32.toInt_inj.mp (by rw [e]; rfl))
  · exact h4 (Int32.toInt_inj.mp (by rw [e]; rfl))
  · exact h5 (Int32.toInt_inj.mp (by rw [e]; rfl))
  · exact h6 (Int32.toInt_inj.mp (by rw [e]; rfl))
  · exact h7 (Int32.toInt_inj.mp (by rw [e]; rfl))
  · exact h8 (Int32.toInt_inj.mp (by rw [e]; rfl))
  · exact h9 (Int32.toInt_inj.mp (by rw [e]; rfl))
  · exact h10 (Int32.toInt_inj.mp (by rw [e]; rfl))
  · exact h11 (Int32.toInt_inj.mp (by rw [e]; rfl))
theorem law_go {j L : Nat} (hL : L < 2 ^ 30) (hj : j < 2 ^ 20) (h : ¬ nI (4 * j + 1) > nI L - 4) : 4 * j + 5 ≤ L := by
  apply Decidable.byContradiction
  intro z
  apply h
  rw [gt_iff_lt, Int32.lt_iff_toInt_lt, show (4 : Int32) = nI 4 from rfl, pk_sub_toInt hL (by decide), nI_toInt (by omega)]
  omega
set_option maxHeartbeats 4000000 in
set_option maxRecDepth 100000 in
/-- THE LAW'S LOOP: behind j calls the class and the reference stand side by side -/
theorem law_loop {p : Program} {l : Launch} {e : Env} {s : State} {m : MethodId} {below : List Frame} {meth : Method} {c : Code} {D : va_G} {b L : Nat} {xs : Nat → Int32} (hL : L ≤ 2049) (C0 : lw_At p s m meth c b L xs) {n : Nat} (hn : 1 ≤ n ∧ n ≤ 64) (aC aM : Nat × Nat → Nat) (cN cB cL cI cZ cL2 : ClassId) (hKC : va_K D kCl (tC cN cB cL) s) (hKM : va_K D kCl (tM cI cZ cL2) s) (hap : ∀ κ, κ ∈ kC n → ∀ κ2, κ2 ∈ kM → aC κ ≠ aM κ2) :
    ∀ (q j : Nat) (k : Int32) (a : Nat) (σ : CS) (μ : MS) (H : Heap) (locs : List Loc) (ls : Array Slot), 4 * j ≤ L → L < 4 * j + q → a ≤ 1000 * j → Sim n k a σ μ → va_P D kCl (kW (kC n) aC (gC n aC cN cB cL σ)) H → va_D (fun q : Nat => s.heap.size ≤ q) (kW (kC n) aC (gC n aC cN cB cL σ)) → va_P D kCl (kW kM aM (gM n aM cI cZ cL2 μ)) H → va_D (fun q : Nat => s.heap.size ≤ q) (kW kM aM (gM n aM cI cZ cL2 μ)) → va_S (fun q : Nat => s.heap.size ≤ q) s.heap H locs → lv_has ls 4 [(0, .ref b), (1, .ref (aC (0, 0))), (2, .ref (aM (0, 0))), (3, .int (nI (4 * j + 1)))] → W p l e room_1 s m #[Value.ref b] below meth c H locs 105 2320 (lw_Z below #[Value.ref b] s) (F0 m 28 ls []) := by
  obtain ⟨hx, hb, hr, hml, hown, hts, hX, hbl, hlocks, hgv⟩ := C0
  have hT : ∀ w ∈ kB_l, w ∈ lw_tbl := fun w h => (List.mem_filter.mp h).1
  have hw := fun w h => hts w (hT w h)
  have hA : ∀ q : Nat, s.heap.size ≤ q → (fun q : Nat => s.heap.size ≤ q) q := fun _ h => h
  have hbA : ¬ (fun q : Nat => s.heap.size ≤ q) b := Nat.not_le.mpr hbl
  intro q
  induction q with
  | zero => intro j k a σ μ H locs ls h1 h2; exact absurd h2 (by omega)
  | succ q ih =>
    intro j k a σ μ H locs ls hj hq ha hs hPC hDC hPM hDM hS hl
    refine lv_iload_n hx hb kd_L_law_28 rfl (lv_at hl 3 rfl) ?_
    refine lv_aload_n hx hb kd_L_law_29 rfl (lv_at hl 0 rfl) ?_
    refine va_slen hx hb hX hbl hbA hS kd_L_law_30 ?_
    refine lv_iconst (v := 4) hx hb kd_L_law_31 (by decide) ?_
    refine lv_isub hx hb kd_L_law_32 ?_
    refine lv_icmp_gt (tgt := 664) hx hb kd_L_law_33 (by decide) (fun c1 => ?_) (fun c1 => ?_)
    · refine lv_iconst (v := 1) hx hb kd_L_law_664 (by decide) ?_
      refine va_forget (fun q hq => hS.2.2 q hq) ?_
      refine W.widen (k := 600000) (n := 7302250) (Nat.le_of_ble_eq_true rfl) (Nat.le_of_ble_eq_true rfl) ?_
      exact lw_ret hx hb hr hlocks kd_L_law_665
    · have hgo : 4 * j + 5 ≤ L := law_go (by omega) (by omega) c1
      have hA30 : a < 2 ^ 30 := by omega
      refine lv_aload_n hx hb kd_L_law_36 rfl (lv_at hl 0 rfl) ?_
      refine lv_iload_n hx hb kd_L_law_37 rfl (lv_at hl 3 rfl) ?_
      refine lx_sld (i := 4 * j + 1) hx hb hX hbl hbA hS rfl (by omega) (by omega) kd_L_law_38 ?_
      refine lv_bipush (v := 15) hx hb kd_L_law_39 (by decide) ?_
      refine lv_iand hx hb kd_L_law_41 ?_
      by_cases d_0 : (xs (4 * j + 1)) &&& 15 = 0
      · refine lv_tableIn (off := 62) (tgt := 104) hx hb kd_L_law_42 (by rw [d_0]; decide) (by rw [d_0]; decide) (by rw [d_0]; rfl) (by decide) ?_
        refine lv_aload_n hx hb kd_L_law_104 rfl (lv_at hl 1 rfl) ?_
        refine lv_aload_n hx hb kd_L_law_105 rfl (lv_at hl 0 rfl) ?_
        refine lv_iload_n hx hb kd_L_law_106 rfl (lv_at hl 3 rfl) ?_
        refine lv_iconst (v := 1) hx hb kd_L_law_107 (by decide) ?_
        refine lv_iadd hx hb kd_L_law_108 ?_
        refine lx_sld (i := 4 * j + 1 + 1) hx hb hX hbl hbA hS (nI_add (4 * j + 1) 1) (by omega) (by omega) kd_L_law_109 ?_
        refine lv_aload_n hx hb kd_L_law_110 rfl (lv_at hl 0 rfl) ?_
        refine lv_iload_n hx hb kd_L_law_111 rfl (lv_at hl 3 rfl) ?_
        refine lv_iconst (v := 2) hx hb kd_L_law_112 (by decide) ?_
        refine lv_iadd hx hb kd_L_law_113 ?_
        refine lx_sld (i := 4 * j + 1 + 2) hx hb hX hbl hbA hS (nI_add (4 * j + 1) 2) (by omega) (by omega) kd_L_law_114 ?_
        refine lv_if_eq (tgt := 122) hx hb kd_L_law_115 (by decide) (fun c_1 => ?_) (fun c_1 => ?_)
        · refine lv_iconst (v := 0) hx hb kd_L_law_122 (by decide) ?_
          refine lx_Vi (K := kC n) (ad := aC) (G := gC n aC cN cB cL) (σ := σ) (κ := (0, 0)) (ci := 2) (fs := thisL aC σ) (wb := kW kM aM (gM n aM cI cZ cL2 μ)) (As := [.int (xs (4 * j + 1 + 1)), .int 0]) (rest := []) (n := 2) hx hb hml hown hts hT (ct_S_request l D hn aC cN cB cL σ (xs (4 * j + 1 + 1)) 0 (by decide) H.size) kw_103 kw_104 kw_105 kw_1 kw_106 (by decide +kernel) ⟨rfl, rfl⟩ ⟨Nat.le_of_ble_eq_true rfl, Nat.le_of_ble_eq_true rfl⟩ hKC hPC hDC hS hA kC_0 rfl rfl hPM (fun k q hq κ hκ => by obtain ⟨κ2, h2, rfl⟩ := kW_mem hq; exact hap κ hκ κ2 h2) rfl hl.1 (Nat.le_of_ble_eq_true rfl) kd_L_law_123 rfl ⟨Nat.le_of_ble_eq_true rfl, Nat.le_of_ble_eq_true rfl⟩ (fun r1 τ H locs hq1 hPC hDC hPM hS => ?_)
          refine lv_aload_n hx hb kd_L_law_126 rfl (lv_at hl 2 rfl) ?_
          refine lv_aload_n hx hb kd_L_law_127 rfl (lv_at hl 0 rfl) ?_
          refine lv_iload_n hx hb kd_L_law_128 rfl (lv_at hl 3 rfl) ?_
          refine lv_iconst (v := 1) hx hb kd_L_law_129 (by decide) ?_
          refine lv_iadd hx hb kd_L_law_130 ?_
          refine lx_sld (i := 4 * j + 1 + 1) hx hb hX hbl hbA hS (nI_add (4 * j + 1) 1) (by omega) (by omega) kd_L_law_131 ?_
          refine lv_aload_n hx hb kd_L_law_132 rfl (lv_at hl 0 rfl) ?_
          refine lv_iload_n hx hb kd_L_law_133 rfl (lv_at hl 3 rfl) ?_
          refine lv_iconst (v := 2) hx hb kd_L_law_134 (by decide) ?_
          refine lv_iadd hx hb kd_L_law_135 ?_
          refine lx_sld (i := 4 * j + 1 + 2) hx hb hX hbl hbA hS (nI_add (4 * j + 1) 2) (by omega) (by omega) kd_L_law_136 ?_
          refine lv_if_eq (tgt := 144) hx hb kd_L_law_137 (by decide) (fun c_2 => ?_) (fun c_2 => ?_)
          · refine lv_iconst (v := 0) hx hb kd_L_law_144 (by decide) ?_
            refine lx_Vi (K := kM) (ad := aM) (G := gM n aM cI cZ cL2) (σ := μ) (κ := (0, 0)) (ci := 3) (fs := thisM aM n μ) (wb := kW (kC n) aC (gC n aC cN cB cL τ)) (As := [.int (xs (4 * j + 1 + 1)), .int 0]) (rest := [.int r1]) (n := 2) hx hb hml hown hts hT (ct_M_request l D hn aM cI cZ cL2 μ (xs (4 * j + 1 + 1)) 0 (by decide) H.size) kw_295 kw_296 kw_297 kw_5 kw_298 (by decide +kernel) ⟨rfl, rfl⟩ ⟨Nat.le_of_ble_eq_true rfl, Nat.le_of_ble_eq_true rfl⟩ hKM hPM hDM hS hA kM_0 rfl rfl hPC (fun k q hq κ hκ => by obtain ⟨κ2, h2, rfl⟩ := kW_mem hq; exact fun z => hap κ2 h2 κ hκ z.symm) rfl hl.1 (Nat.le_of_ble_eq_true rfl) kd_L_law_145 rfl ⟨Nat.le_of_ble_eq_true rfl, Nat.le_of_ble_eq_true rfl⟩ (fun r2 ν H locs hq2 hPM hDM hPC hS => ?_)
            obtain ⟨heq, k2, a2, ha2, hs2⟩ := op_request hs hq1 hq2
            refine lv_icmp_eq (tgt := 658) hx hb kd_L_law_148 (by decide) (fun _ => ?_) (fun c0 => absurd heq c0)
            refine lv_iinc (v := nI (4 * (j + 1) + 1)) (lv' := [(3, .int (nI (4 * (j + 1) + 1))), (0, .ref b), (1, .ref (aC (0, 0))), (2, .ref (aM (0, 0)))]) hx hb kd_L_law_658 hl (k := 3) rfl (nI_add (4 * j + 1) 4) (by decide) rfl (fun ls hl => ?_)
            refine lv_goto (tgt := 28) hx hb kd_L_law_661 (by decide) ?_
            exact ih (j + 1) k2 a2 τ ν H locs ls (by omega) (by omega) (by omega) hs2 hPC hDC hPM hDM hS (lv_sub hl [1, 2, 3, 0] rfl)
          · exact absurd c_1 c_2
        · refine lv_iconst (v := 1) hx hb kd_L_law_118 (by decide) ?_
          refine lv_goto (tgt := 123) hx hb kd_L_law_119 (by decide) ?_
          refine lx_Vi (K := kC n) (ad := aC) (G := gC n aC cN cB cL) (σ := σ) (κ := (0, 0)) (ci := 2) (fs := thisL aC σ) (wb := kW kM aM (gM n aM cI cZ cL2 μ)) (As := [.int (xs (4 * j + 1 + 1)), .int 1]) (rest := []) (n := 2) hx hb hml hown hts hT (ct_S_request l D hn aC cN cB cL σ (xs (4 * j + 1 + 1)) 1 (by decide) H.size) kw_103 kw_104 kw_105 kw_1 kw_106 (by decide +kernel) ⟨rfl, rfl⟩ ⟨Nat.le_of_ble_eq_true rfl, Nat.le_of_ble_eq_true rfl⟩ hKC hPC hDC hS hA kC_0 rfl rfl hPM (fun k q hq κ hκ => by obtain ⟨κ2, h2, rfl⟩ := kW_mem hq; exact hap κ hκ κ2 h2) rfl hl.1 (Nat.le_of_ble_eq_true rfl) kd_L_law_123 rfl ⟨Nat.le_of_ble_eq_true rfl, Nat.le_of_ble_eq_true rfl⟩ (fun r1 τ H locs hq1 hPC hDC hPM hS => ?_)
          refine lv_aload_n hx hb kd_L_law_126 rfl (lv_at hl 2 rfl) ?_
          refine lv_aload_n hx hb kd_L_law_127 rfl (lv_at hl 0 rfl) ?_
          refine lv_iload_n hx hb kd_L_law_128 rfl (lv_at hl 3 rfl) ?_
          refine lv_iconst (v := 1) hx hb kd_L_law_129 (by decide) ?_
          refine lv_iadd hx hb kd_L_law_130 ?_
          refine lx_sld (i := 4 * j + 1 + 1) hx hb hX hbl hbA hS (nI_add (4 * j + 1) 1) (by omega) (by omega) kd_L_law_131 ?_
          refine lv_aload_n hx hb kd_L_law_132 rfl (lv_at hl 0 rfl) ?_
          refine lv_iload_n hx hb kd_L_law_133 rfl (lv_at hl 3 rfl) ?_
          refine lv_iconst (v := 2) hx hb kd_L_law_134 (by decide) ?_
          refine lv_iadd hx hb kd_L_law_135 ?_
          refine lx_sld (i := 4 * j + 1 + 2) hx hb hX hbl hbA hS (nI_add (4 * j + 1) 2) (by omega) (by omega) kd_L_law_136 ?_
          refine lv_if_eq (tgt := 144) hx hb kd_L_law_137 (by decide) (fun c_3 => ?_) (fun c_3 => ?_)
          · exact absurd c_3 c_1
          · refine lv_iconst (v := 1) hx hb kd_L_law_140 (by decide) ?_
            refine lv_goto (tgt := 145) hx hb kd_L_law_141 (by decide) ?_
            refine lx_Vi (K := kM) (ad := aM) (G := gM n aM cI cZ cL2) (σ := μ) (κ := (0, 0)) (ci := 3) (fs := thisM aM n μ) (wb := kW (kC n) aC (gC n aC cN cB cL τ)) (As := [.int (xs (4 * j + 1 + 1)), .int 1]) (rest := [.int r1]) (n := 2) hx hb hml hown hts hT (ct_M_request l D hn aM cI cZ cL2 μ (xs (4 * j + 1 + 1)) 1 (by decide) H.size) kw_295 kw_296 kw_297 kw_5 kw_298 (by decide +kernel) ⟨rfl, rfl⟩ ⟨Nat.le_of_ble_eq_true rfl, Nat.le_of_ble_eq_true rfl⟩ hKM hPM hDM hS hA kM_0 rfl rfl hPC (fun k q hq κ hκ => by obtain ⟨κ2, h2, rfl⟩ := kW_mem hq; exact fun z => hap κ2 h2 κ hκ z.symm) rfl hl.1 (Nat.le_of_ble_eq_true rfl) kd_L_law_145 rfl ⟨Nat.le_of_ble_eq_true rfl, Nat.le_of_ble_eq_true rfl⟩ (fun r2 ν H locs hq2 hPM hDM hPC hS => ?_)
            obtain ⟨heq, k2, a2, ha2, hs2⟩ := op_request hs hq1 hq2
            refine lv_icmp_eq (tgt := 658) hx hb kd_L_law_148 (by decide) (fun _ => ?_) (fun c0 => absurd heq c0)
            refine lv_iinc (v := nI (4 * (j + 1) + 1)) (lv' := [(3, .int (nI (4 * (j + 1) + 1))), (0, .ref b), (1, .ref (aC (0, 0))), (2, .ref (aM (0, 0)))]) hx hb kd_L_law_658 hl (k := 3) rfl (nI_add (4 * j + 1) 4) (by decide) rfl (fun ls hl => ?_)
            refine lv_goto (tgt := 28) hx hb kd_L_law_661 (by decide) ?_
            exact ih (j + 1) k2 a2 τ ν H locs ls (by omega) (by omega) (by omega) hs2 hPC hDC hPM hDM hS (lv_sub hl [1, 2, 3, 0] rfl)
      · by_cases d_1 : (xs (4 * j + 1)) &&& 15 = 1
        · refine lv_tableIn (off := 111) (tgt := 153) hx hb kd_L_law_42 (by rw [d_1]; decide) (by rw [d_1]; decide) (by rw [d_1]; rfl) (by decide) ?_
          refine lv_aload_n hx hb kd_L_law_153 rfl (lv_at hl 1 rfl) ?_
          refine lv_aload_n hx hb kd_L_law_154 rfl (lv_at hl 0 rfl) ?_
          refine lv_iload_n hx hb kd_L_law_155 rfl (lv_at hl 3 rfl) ?_
          refine lv_iconst (v := 1) hx hb kd_L_law_156 (by decide) ?_
          refine lv_iadd hx hb kd_L_law_157 ?_
          refine lx_sld (i := 4 * j + 1 + 1) hx hb hX hbl hbA hS (nI_add (4 * j + 1) 1) (by omega) (by omega) kd_L_law_158 ?_
          refine lv_aload_n hx hb kd_L_law_159 rfl (lv_at hl 0 rfl) ?_
          refine lv_iload_n hx hb kd_L_law_160 rfl (lv_at hl 3 rfl) ?_
          refine lv_iconst (v := 2) hx hb kd_L_law_161 (by decide) ?_
          refine lv_iadd hx hb kd_L_law_162 ?_
          refine lx_sld (i := 4 * j + 1 + 2) hx hb hX hbl hbA hS (nI_add (4 * j + 1) 2) (by omega) (by omega) kd_L_law_163 ?_
          refine lv_i2l (v := (xs (4 * j + 1 + 2)).toInt64) hx hb kd_L_law_164 rfl ?_
          refine lv_bipush (v := 32) hx hb kd_L_law_165 (by decide) ?_
          refine lv_lshl (v := ((xs (4 * j + 1 + 2)).toInt64) <<< ((32 : Int32).toInt64 &&& 63)) hx hb kd_L_law_167 rfl ?_
          refine lv_aload_n hx hb kd_L_law_168 rfl (lv_at hl 0 rfl) ?_
          refine lv_iload_n hx hb kd_L_law_169 rfl (lv_at hl 3 rfl) ?_
          refine lv_iconst (v := 3) hx hb kd_L_law_170 (by decide) ?_
          refine lv_iadd hx hb kd_L_law_171 ?_
          refine lx_sld (i := 4 * j + 1 + 3) hx hb hX hbl hbA hS (nI_add (4 * j + 1) 3) (by omega) (by omega) kd_L_law_172 ?_
          refine lv_i2l (v := (xs (4 * j + 1 + 3)).toInt64) hx hb kd_L_law_173 rfl ?_
          refine lv_ldc2 (v := 4294967295) hx hb hown (hw _ kw_393) kd_L_law_174 ?_
          refine lv_land hx hb kd_L_law_177 ?_
          refine lv_lor hx hb kd_L_law_178 ?_
          refine lv_topl (fun t ht => ?_)
          refine lx_Vi (K := kC n) (ad := aC) (G := gC n aC cN cB cL) (σ := σ) (κ := (0, 0)) (ci := 2) (fs := thisL aC σ) (wb := kW kM aM (gM n aM cI cZ cL2 μ)) (As := [.int (xs (4 * j + 1 + 1)), .long t]) (rest := []) (n := 2) hx hb hml hown hts hT (ct_S_alive l D hn aC cN cB cL σ (xs (4 * j + 1 + 1)) t hs.2.2.2.1 hA30 H.size) kw_131 kw_132 kw_133 kw_1 kw_134 (by decide +kernel) ⟨rfl, rfl⟩ ⟨Nat.le_of_ble_eq_true rfl, Nat.le_of_ble_eq_true rfl⟩ hKC hPC hDC hS hA kC_0 rfl rfl hPM (fun k q hq κ hκ => by obtain ⟨κ2, h2, rfl⟩ := kW_mem hq; exact hap κ hκ κ2 h2) rfl hl.1 (Nat.le_of_ble_eq_true rfl) kd_L_law_179 rfl ⟨Nat.le_of_ble_eq_true rfl, Nat.le_of_ble_eq_true rfl⟩ (fun r1 τ H locs hq1 hPC hDC hPM hS => ?_)
          refine lv_aload_n hx hb kd_L_law_182 rfl (lv_at hl 2 rfl) ?_
          refine lv_aload_n hx hb kd_L_law_183 rfl (lv_at hl 0 rfl) ?_
          refine lv_iload_n hx hb kd_L_law_184 rfl (lv_at hl 3 rfl) ?_
          refine lv_iconst (v := 1) hx hb kd_L_law_185 (by decide) ?_
          refine lv_iadd hx hb kd_L_law_186 ?_
          refine lx_sld (i := 4 * j + 1 + 1) hx hb hX hbl hbA hS (nI_add (4 * j + 1) 1) (by omega) (by omega) kd_L_law_187 ?_
          refine lv_aload_n hx hb kd_L_law_188 rfl (lv_at hl 0 rfl) ?_
          refine lv_iload_n hx hb kd_L_law_189 rfl (lv_at hl 3 rfl) ?_
          refine lv_iconst (v := 2) hx hb kd_L_law_190 (by decide) ?_
          refine lv_iadd hx hb kd_L_law_191 ?_
          refine lx_sld (i := 4 * j + 1 + 2) hx hb hX hbl hbA hS (nI_add (4 * j + 1) 2) (by omega) (by omega) kd_L_law_192 ?_
          refine lv_i2l (v := (xs (4 * j + 1 + 2)).toInt64) hx hb kd_L_law_193 rfl ?_
          refine lv_bipush (v := 32) hx hb kd_L_law_194 (by decide) ?_
          refine lv_lshl (v := ((xs (4 * j + 1 + 2)).toInt64) <<< ((32 : Int32).toInt64 &&& 63)) hx hb kd_L_law_196 rfl ?_
          refine lv_aload_n hx hb kd_L_law_197 rfl (lv_at hl 0 rfl) ?_
          refine lv_iload_n hx hb kd_L_law_198 rfl (lv_at hl 3 rfl) ?_
          refine lv_iconst (v := 3) hx hb kd_L_law_199 (by decide) ?_
          refine lv_iadd hx hb kd_L_law_200 ?_
          refine lx_sld (i := 4 * j + 1 + 3) hx hb hX hbl hbA hS (nI_add (4 * j + 1) 3) (by omega) (by omega) kd_L_law_201 ?_
          refine lv_i2l (v := (xs (4 * j + 1 + 3)).toInt64) hx hb kd_L_law_202 rfl ?_
          refine lv_ldc2 (v := 4294967295) hx hb hown (hw _ kw_393) kd_L_law_203 ?_
          refine lv_land hx hb kd_L_law_206 ?_
          refine lv_lor hx hb kd_L_law_207 ?_
          refine lv_topl (fun t2 ht2 => ?_)
          obtain rfl : t = t2 := ht.trans ht2.symm
          refine lx_Vi (K := kM) (ad := aM) (G := gM n aM cI cZ cL2) (σ := μ) (κ := (0, 0)) (ci := 3) (fs := thisM aM n μ) (wb := kW (kC n) aC (gC n aC cN cB cL τ)) (As := [.int (xs (4 * j + 1 + 1)), .long t]) (rest := [.int r1]) (n := 2) hx hb hml hown hts hT (ct_M_alive l D hn aM cI cZ cL2 μ (xs (4 * j + 1 + 1)) t hs.2.2.2.2.1 hA30 H.size) kw_315 kw_316 kw_317 kw_5 kw_318 (by decide +kernel) ⟨rfl, rfl⟩ ⟨Nat.le_of_ble_eq_true rfl, Nat.le_of_ble_eq_true rfl⟩ hKM hPM hDM hS hA kM_0 rfl rfl hPC (fun k q hq κ hκ => by obtain ⟨κ2, h2, rfl⟩ := kW_mem hq; exact fun z => hap κ2 h2 κ hκ z.symm) rfl hl.1 (Nat.le_of_ble_eq_true rfl) kd_L_law_208 rfl ⟨Nat.le_of_ble_eq_true rfl, Nat.le_of_ble_eq_true rfl⟩ (fun r2 ν H locs hq2 hPM hDM hPC hS => ?_)
          obtain ⟨heq, k2, a2, ha2, hs2⟩ := op_alive hn.2 hA30 hs hq1 hq2
          refine lv_icmp_eq (tgt := 658) hx hb kd_L_law_211 (by decide) (fun _ => ?_) (fun c0 => absurd heq c0)
          refine lv_iinc (v := nI (4 * (j + 1) + 1)) (lv' := [(3, .int (nI (4 * (j + 1) + 1))), (0, .ref b), (1, .ref (aC (0, 0))), (2, .ref (aM (0, 0)))]) hx hb kd_L_law_658 hl (k := 3) rfl (nI_add (4 * j + 1) 4) (by decide) rfl (fun ls hl => ?_)
          refine lv_goto (tgt := 28) hx hb kd_L_law_661 (by decide) ?_
          exact ih (j + 1) k2 a2 τ ν H locs ls (by omega) (by omega) (by omega) hs2 hPC hDC hPM hDM hS (lv_sub hl [1, 2, 3, 0] rfl)
        · by_cases d_2 : (xs (4 * j + 1)) &&& 15 = 2
          · refine lv_tableIn (off := 174) (tgt := 216) hx hb kd_L_law_42 (by rw [d_2]; decide) (by rw [d_2]; decide) (by rw [d_2]; rfl) (by decide) ?_
            refine lv_aload_n hx hb kd_L_law_216 rfl (lv_at hl 1 rfl) ?_
            refine lv_aload_n hx hb kd_L_law_217 rfl (lv_at hl 0 rfl) ?_
            refine lv_iload_n hx hb kd_L_law_218 rfl (lv_at hl 3 rfl) ?_
            refine lv_iconst (v := 1) hx hb kd_L_law_219 (by decide) ?_
            refine lv_iadd hx hb kd_L_law_220 ?_
            refine lx_sld (i := 4 * j + 1 + 1) hx hb hX hbl hbA hS (nI_add (4 * j + 1) 1) (by omega) (by omega) kd_L_law_221 ?_
            refine lv_i2l (v := (xs (4 * j + 1 + 1)).toInt64) hx hb kd_L_law_222 rfl ?_
            refine lv_bipush (v := 32) hx hb kd_L_law_223 (by decide) ?_
            refine lv_lshl (v := ((xs (4 * j + 1 + 1)).toInt64) <<< ((32 : Int32).toInt64 &&& 63)) hx hb kd_L_law_225 rfl ?_
            refine lv_aload_n hx hb kd_L_law_226 rfl (lv_at hl 0 rfl) ?_
            refine lv_iload_n hx hb kd_L_law_227 rfl (lv_at hl 3 rfl) ?_
            refine lv_iconst (v := 2) hx hb kd_L_law_228 (by decide) ?_
            refine lv_iadd hx hb kd_L_law_229 ?_
            refine lx_sld (i := 4 * j + 1 + 2) hx hb hX hbl hbA hS (nI_add (4 * j + 1) 2) (by omega) (by omega) kd_L_law_230 ?_
            refine lv_i2l (v := (xs (4 * j + 1 + 2)).toInt64) hx hb kd_L_law_231 rfl ?_
            refine lv_ldc2 (v := 4294967295) hx hb hown (hw _ kw_393) kd_L_law_232 ?_
            refine lv_land hx hb kd_L_law_235 ?_
            refine lv_lor hx hb kd_L_law_236 ?_
            refine lv_topl (fun t ht => ?_)
            refine lx_Vi (K := kC n) (ad := aC) (G := gC n aC cN cB cL) (σ := σ) (κ := (0, 0)) (ci := 2) (fs := thisL aC σ) (wb := kW kM aM (gM n aM cI cZ cL2 μ)) (As := [.long t]) (rest := []) (n := 1) hx hb hml hown hts hT (ct_S_tick l D hn aC cN cB cL σ t hs.2.2.2.1 hA30 H.size) kw_180 kw_181 kw_182 kw_1 kw_183 (by decide +kernel) ⟨rfl, rfl⟩ ⟨Nat.le_of_ble_eq_true rfl, Nat.le_of_ble_eq_true rfl⟩ hKC hPC hDC hS hA kC_0 rfl rfl hPM (fun k q hq κ hκ => by obtain ⟨κ2, h2, rfl⟩ := kW_mem hq; exact hap κ hκ κ2 h2) rfl hl.1 (Nat.le_of_ble_eq_true rfl) kd_L_law_237 rfl ⟨Nat.le_of_ble_eq_true rfl, Nat.le_of_ble_eq_true rfl⟩ (fun r1 τ H locs hq1 hPC hDC hPM hS => ?_)
            refine lv_aload_n hx hb kd_L_law_240 rfl (lv_at hl 2 rfl) ?_
            refine lv_aload_n hx hb kd_L_law_241 rfl (lv_at hl 0 rfl) ?_
            refine lv_iload_n hx hb kd_L_law_242 rfl (lv_at hl 3 rfl) ?_
            refine lv_iconst (v := 1) hx hb kd_L_law_243 (by decide) ?_
            refine lv_iadd hx hb kd_L_law_244 ?_
            refine lx_sld (i := 4 * j + 1 + 1) hx hb hX hbl hbA hS (nI_add (4 * j + 1) 1) (by omega) (by omega) kd_L_law_245 ?_
            refine lv_i2l (v := (xs (4 * j + 1 + 1)).toInt64) hx hb kd_L_law_246 rfl ?_
            refine lv_bipush (v := 32) hx hb kd_L_law_247 (by decide) ?_
            refine lv_lshl (v := ((xs (4 * j + 1 + 1)).toInt64) <<< ((32 : Int32).toInt64 &&& 63)) hx hb kd_L_law_249 rfl ?_
            refine lv_aload_n hx hb kd_L_law_250 rfl (lv_at hl 0 rfl) ?_
            refine lv_iload_n hx hb kd_L_law_251 rfl (lv_at hl 3 rfl) ?_
            refine lv_iconst (v := 2) hx hb kd_L_law_252 (by decide) ?_
            refine lv_iadd hx hb kd_L_law_253 ?_
            refine lx_sld (i := 4 * j + 1 + 2) hx hb hX hbl hbA hS (nI_add (4 * j + 1) 2) (by omega) (by omega) kd_L_law_254 ?_
            refine lv_i2l (v := (xs (4 * j + 1 + 2)).toInt64) hx hb kd_L_law_255 rfl ?_
            refine lv_ldc2 (v := 4294967295) hx hb hown (hw _ kw_393) kd_L_law_256 ?_
            refine lv_land hx hb kd_L_law_259 ?_
            refine lv_lor hx hb kd_L_law_260 ?_
            refine lv_topl (fun t2 ht2 => ?_)
            obtain rfl : t = t2 := ht.trans ht2.symm
            refine lx_Vi (K := kM) (ad := aM) (G := gM n aM cI cZ cL2) (σ := μ) (κ := (0, 0)) (ci := 3) (fs := thisM aM n μ) (wb := kW (kC n) aC (gC n aC cN cB cL τ)) (As := [.long t]) (rest := [.int r1]) (n := 1) hx hb hml hown hts hT (ct_M_tick l D hn aM cI cZ cL2 μ t hs.2.2.2.2.1 hA30 H.size) kw_351 kw_352 kw_353 kw_5 kw_354 (by decide +kernel) ⟨rfl, rfl⟩ ⟨Nat.le_of_ble_eq_true rfl, Nat.le_of_ble_eq_true rfl⟩ hKM hPM hDM hS hA kM_0 rfl rfl hPC (fun k q hq κ hκ => by obtain ⟨κ2, h2, rfl⟩ := kW_mem hq; exact fun z => hap κ2 h2 κ hκ z.symm) rfl hl.1 (Nat.le_of_ble_eq_true rfl) kd_L_law_261 rfl ⟨Nat.le_of_ble_eq_true rfl, Nat.le_of_ble_eq_true rfl⟩ (fun r2 ν H locs hq2 hPM hDM hPC hS => ?_)
            obtain ⟨heq, k2, a2, ha2, hs2⟩ := op_tick hn.2 hA30 hs hq1 hq2
            refine lv_icmp_eq (tgt := 658) hx hb kd_L_law_264 (by decide) (fun _ => ?_) (fun c0 => absurd heq c0)
            refine lv_iinc (v := nI (4 * (j + 1) + 1)) (lv' := [(3, .int (nI (4 * (j + 1) + 1))), (0, .ref b), (1, .ref (aC (0, 0))), (2, .ref (aM (0, 0)))]) hx hb kd_L_law_658 hl (k := 3) rfl (nI_add (4 * j + 1) 4) (by decide) rfl (fun ls hl => ?_)
            refine lv_goto (tgt := 28) hx hb kd_L_law_661 (by decide) ?_
            exact ih (j + 1) k2 a2 τ ν H locs ls (by omega) (by omega) (by omega) hs2 hPC hDC hPM hDM hS (lv_sub hl [1, 2, 3, 0] rfl)
          · by_cases d_3 : (xs (4 * j + 1)) &&& 15 = 3
            · refine lv_tableIn (off := 227) (tgt := 269) hx hb kd_L_law_42 (by rw [d_3]; decide) (by rw [d_3]; decide) (by rw [d_3]; rfl) (by decide) ?_
              refine lv_aload_n hx hb kd_L_law_269 rfl (lv_at hl 1 rfl) ?_
              refine lv_aload_n hx hb kd_L_law_270 rfl (lv_at hl 0 rfl) ?_
              refine lv_iload_n hx hb kd_L_law_271 rfl (lv_at hl 3 rfl) ?_
              refine lv_iconst (v := 1) hx hb kd_L_law_272 (by decide) ?_
              refine lv_iadd hx hb kd_L_law_273 ?_
              refine lx_sld (i := 4 * j + 1 + 1) hx hb hX hbl hbA hS (nI_add (4 * j + 1) 1) (by omega) (by omega) kd_L_law_274 ?_
              refine lx_Vi (K := kC n) (ad := aC) (G := gC n aC cN cB cL) (σ := σ) (κ := (0, 0)) (ci := 2) (fs := thisL aC σ) (wb := kW kM aM (gM n aM cI cZ cL2 μ)) (As := [.int (xs (4 * j + 1 + 1))]) (rest := []) (n := 1) hx hb hml hown hts hT (ct_S_state l D hn aC cN cB cL σ (xs (4 * j + 1 + 1)) H.size) kw_184 kw_185 kw_186 kw_1 kw_187 (by decide +kernel) ⟨rfl, rfl⟩ ⟨Nat.le_of_ble_eq_true rfl, Nat.le_of_ble_eq_true rfl⟩ hKC hPC hDC hS hA kC_0 rfl rfl hPM (fun k q hq κ hκ => by obtain ⟨κ2, h2, rfl⟩ := kW_mem hq; exact hap κ hκ κ2 h2) rfl hl.1 (Nat.le_of_ble_eq_true rfl) kd_L_law_275 rfl ⟨Nat.le_of_ble_eq_true rfl, Nat.le_of_ble_eq_true rfl⟩ (fun r1 τ H locs hq1 hPC hDC hPM hS => ?_)
              refine lv_aload_n hx hb kd_L_law_278 rfl (lv_at hl 2 rfl) ?_
              refine lv_aload_n hx hb kd_L_law_279 rfl (lv_at hl 0 rfl) ?_
              refine lv_iload_n hx hb kd_L_law_280 rfl (lv_at hl 3 rfl) ?_
              refine lv_iconst (v := 1) hx hb kd_L_law_281 (by decide) ?_
              refine lv_iadd hx hb kd_L_law_282 ?_
              refine lx_sld (i := 4 * j + 1 + 1) hx hb hX hbl hbA hS (nI_add (4 * j + 1) 1) (by omega) (by omega) kd_L_law_283 ?_
              refine lx_Vi (K := kM) (ad := aM) (G := gM n aM cI cZ cL2) (σ := μ) (κ := (0, 0)) (ci := 3) (fs := thisM aM n μ) (wb := kW (kC n) aC (gC n aC cN cB cL τ)) (As := [.int (xs (4 * j + 1 + 1))]) (rest := [.int r1]) (n := 1) hx hb hml hown hts hT (ct_M_state l D hn aM cI cZ cL2 μ (xs (4 * j + 1 + 1)) H.size) kw_355 kw_356 kw_357 kw_5 kw_358 (by decide +kernel) ⟨rfl, rfl⟩ ⟨Nat.le_of_ble_eq_true rfl, Nat.le_of_ble_eq_true rfl⟩ hKM hPM hDM hS hA kM_0 rfl rfl hPC (fun k q hq κ hκ => by obtain ⟨κ2, h2, rfl⟩ := kW_mem hq; exact fun z => hap κ2 h2 κ hκ z.symm) rfl hl.1 (Nat.le_of_ble_eq_true rfl) kd_L_law_284 rfl ⟨Nat.le_of_ble_eq_true rfl, Nat.le_of_ble_eq_true rfl⟩ (fun r2 ν H locs hq2 hPM hDM hPC hS => ?_)
              obtain ⟨heq, k2, a2, ha2, hs2⟩ := op_state hs hq1 hq2
              refine lv_icmp_eq (tgt := 658) hx hb kd_L_law_287 (by decide) (fun _ => ?_) (fun c0 => absurd heq c0)
              refine lv_iinc (v := nI (4 * (j + 1) + 1)) (lv' := [(3, .int (nI (4 * (j + 1) + 1))), (0, .ref b), (1, .ref (aC (0, 0))), (2, .ref (aM (0, 0)))]) hx hb kd_L_law_658 hl (k := 3) rfl (nI_add (4 * j + 1) 4) (by decide) rfl (fun ls hl => ?_)
              refine lv_goto (tgt := 28) hx hb kd_L_law_661 (by decide) ?_
              exact ih (j + 1) k2 a2 τ ν H locs ls (by omega) (by omega) (by omega) hs2 hPC hDC hPM hDM hS (lv_sub hl [1, 2, 3, 0] rfl)
            · by_cases d_4 : (xs (4 * j + 1)) &&& 15 = 4
              · refine lv_tableIn (off := 250) (tgt := 292) hx hb kd_L_law_42 (by rw [d_4]; decide) (by rw [d_4]; decide) (by rw [d_4]; rfl) (by decide) ?_
                refine lv_aload_n hx hb kd_L_law_292 rfl (lv_at hl 1 rfl) ?_
                refine lv_aload_n hx hb kd_L_law_293 rfl (lv_at hl 0 rfl) ?_
                refine lv_iload_n hx hb kd_L_law_294 rfl (lv_at hl 3 rfl) ?_
                refine lv_iconst (v := 1) hx hb kd_L_law_295 (by decide) ?_
                refine lv_iadd hx hb kd_L_law_296 ?_
                refine lx_sld (i := 4 * j + 1 + 1) hx hb hX hbl hbA hS (nI_add (4 * j + 1) 1) (by omega) (by omega) kd_L_law_297 ?_
                refine lv_aload_n hx hb kd_L_law_298 rfl (lv_at hl 0 rfl) ?_
                refine lv_iload_n hx hb kd_L_law_299 rfl (lv_at hl 3 rfl) ?_
                refine lv_iconst (v := 2) hx hb kd_L_law_300 (by decide) ?_
                refine lv_iadd hx hb kd_L_law_301 ?_
                refine lx_sld (i := 4 * j + 1 + 2) hx hb hX hbl hbA hS (nI_add (4 * j + 1) 2) (by omega) (by omega) kd_L_law_302 ?_
                refine lv_i2l (v := (xs (4 * j + 1 + 2)).toInt64) hx hb kd_L_law_303 rfl ?_
                refine lv_bipush (v := 32) hx hb kd_L_law_304 (by decide) ?_
                refine lv_lshl (v := ((xs (4 * j + 1 + 2)).toInt64) <<< ((32 : Int32).toInt64 &&& 63)) hx hb kd_L_law_306 rfl ?_
                refine lv_aload_n hx hb kd_L_law_307 rfl (lv_at hl 0 rfl) ?_
                refine lv_iload_n hx hb kd_L_law_308 rfl (lv_at hl 3 rfl) ?_
                refine lv_iconst (v := 3) hx hb kd_L_law_309 (by decide) ?_
                refine lv_iadd hx hb kd_L_law_310 ?_
                refine lx_sld (i := 4 * j + 1 + 3) hx hb hX hbl hbA hS (nI_add (4 * j + 1) 3) (by omega) (by omega) kd_L_law_311 ?_
                refine lv_i2l (v := (xs (4 * j + 1 + 3)).toInt64) hx hb kd_L_law_312 rfl ?_
                refine lv_ldc2 (v := 4294967295) hx hb hown (hw _ kw_393) kd_L_law_313 ?_
                refine lv_land hx hb kd_L_law_316 ?_
                refine lv_lor hx hb kd_L_law_317 ?_
                refine lv_topl (fun t ht => ?_)
                refine lx_Vi (K := kC n) (ad := aC) (G := gC n aC cN cB cL) (σ := σ) (κ := (0, 0)) (ci := 2) (fs := thisL aC σ) (wb := kW kM aM (gM n aM cI cZ cL2 μ)) (As := [.int (xs (4 * j + 1 + 1)), .long t]) (rest := []) (n := 2) hx hb hml hown hts hT (ct_S_wake l D hn aC cN cB cL σ (xs (4 * j + 1 + 1)) t hs.2.2.2.1 hA30 H.size) kw_188 kw_189 kw_190 kw_1 kw_191 (by decide +kernel) ⟨rfl, rfl⟩ ⟨Nat.le_of_ble_eq_true rfl, Nat.le_of_ble_eq_true rfl⟩ hKC hPC hDC hS hA kC_0 rfl rfl hPM (fun k q hq κ hκ => by obtain ⟨κ2, h2, rfl⟩ := kW_mem hq; exact hap κ hκ κ2 h2) rfl hl.1 (Nat.le_of_ble_eq_true rfl) kd_L_law_318 rfl ⟨Nat.le_of_ble_eq_true rfl, Nat.le_of_ble_eq_true rfl⟩ (fun r1 τ H locs hq1 hPC hDC hPM hS => ?_)
                refine lv_aload_n hx hb kd_L_law_321 rfl (lv_at hl 2 rfl) ?_
                refine lv_aload_n hx hb kd_L_law_322 rfl (lv_at hl 0 rfl) ?_
                refine lv_iload_n hx hb kd_L_law_323 rfl (lv_at hl 3 rfl) ?_
                refine lv_iconst (v := 1) hx hb kd_L_law_324 (by decide) ?_
                refine lv_iadd hx hb kd_L_law_325 ?_
                refine lx_sld (i := 4 * j + 1 + 1) hx hb hX hbl hbA hS (nI_add (4 * j + 1) 1) (by omega) (by omega) kd_L_law_326 ?_
                refine lv_aload_n hx hb kd_L_law_327 rfl (lv_at hl 0 rfl) ?_
                refine lv_iload_n hx hb kd_L_law_328 rfl (lv_at hl 3 rfl) ?_
                refine lv_iconst (v := 2) hx hb kd_L_law_329 (by decide) ?_
                refine lv_iadd hx hb kd_L_law_330 ?_
                refine lx_sld (i := 4 * j + 1 + 2) hx hb hX hbl hbA hS (nI_add (4 * j + 1) 2) (by omega) (by omega) kd_L_law_331 ?_
                refine lv_i2l (v := (xs (4 * j + 1 + 2)).toInt64) hx hb kd_L_law_332 rfl ?_
                refine lv_bipush (v := 32) hx hb kd_L_law_333 (by decide) ?_
                refine lv_lshl (v := ((xs (4 * j + 1 + 2)).toInt64) <<< ((32 : Int32).toInt64 &&& 63)) hx hb kd_L_law_335 rfl ?_
                refine lv_aload_n hx hb kd_L_law_336 rfl (lv_at hl 0 rfl) ?_
                refine lv_iload_n hx hb kd_L_law_337 rfl (lv_at hl 3 rfl) ?_
                refine lv_iconst (v := 3) hx hb kd_L_law_338 (by decide) ?_
                refine lv_iadd hx hb kd_L_law_339 ?_
                refine lx_sld (i := 4 * j + 1 + 3) hx hb hX hbl hbA hS (nI_add (4 * j + 1) 3) (by omega) (by omega) kd_L_law_340 ?_
                refine lv_i2l (v := (xs (4 * j + 1 + 3)).toInt64) hx hb kd_L_law_341 rfl ?_
                refine lv_ldc2 (v := 4294967295) hx hb hown (hw _ kw_393) kd_L_law_342 ?_
                refine lv_land hx hb kd_L_law_345 ?_
                refine lv_lor hx hb kd_L_law_346 ?_
                refine lv_topl (fun t2 ht2 => ?_)
                obtain rfl : t = t2 := ht.trans ht2.symm
                refine lx_Vi (K := kM) (ad := aM) (G := gM n aM cI cZ cL2) (σ := μ) (κ := (0, 0)) (ci := 3) (fs := thisM aM n μ) (wb := kW (kC n) aC (gC n aC cN cB cL τ)) (As := [.int (xs (4 * j + 1 + 1)), .long t]) (rest := [.int r1]) (n := 2) hx hb hml hown hts hT (ct_M_wake l D hn aM cI cZ cL2 μ (xs (4 * j + 1 + 1)) t hs.2.2.2.2.1 hA30 H.size) kw_359 kw_360 kw_361 kw_5 kw_362 (by decide +kernel) ⟨rfl, rfl⟩ ⟨Nat.le_of_ble_eq_true rfl, Nat.le_of_ble_eq_true rfl⟩ hKM hPM hDM hS hA kM_0 rfl rfl hPC (fun k q hq κ hκ => by obtain ⟨κ2, h2, rfl⟩ := kW_mem hq; exact fun z => hap κ2 h2 κ hκ z.symm) rfl hl.1 (Nat.le_of_ble_eq_true rfl) kd_L_law_347 rfl ⟨Nat.le_of_ble_eq_true rfl, Nat.le_of_ble_eq_true rfl⟩ (fun r2 ν H locs hq2 hPM hDM hPC hS => ?_)
                obtain ⟨heq, k2, a2, ha2, hs2⟩ := op_wake hn.2 hA30 hs hq1 hq2
                refine lv_icmp_eq (tgt := 658) hx hb kd_L_law_350 (by decide) (fun _ => ?_) (fun c0 => absurd heq c0)
                refine lv_iinc (v := nI (4 * (j + 1) + 1)) (lv' := [(3, .int (nI (4 * (j + 1) + 1))), (0, .ref b), (1, .ref (aC (0, 0))), (2, .ref (aM (0, 0)))]) hx hb kd_L_law_658 hl (k := 3) rfl (nI_add (4 * j + 1) 4) (by decide) rfl (fun ls hl => ?_)
                refine lv_goto (tgt := 28) hx hb kd_L_law_661 (by decide) ?_
                exact ih (j + 1) k2 a2 τ ν H locs ls (by omega) (by omega) (by omega) hs2 hPC hDC hPM hDM hS (lv_sub hl [1, 2, 3, 0] rfl)
              · by_cases d_5 : (xs (4 * j + 1)) &&& 15 = 5
                · refine lv_tableIn (off := 313) (tgt := 355) hx hb kd_L_law_42 (by rw [d_5]; decide) (by rw [d_5]; decide) (by rw [d_5]; rfl) (by decide) ?_
                  refine lv_aload_n hx hb kd_L_law_355 rfl (lv_at hl 1 rfl) ?_
                  refine lv_aload_n hx hb kd_L_law_356 rfl (lv_at hl 0 rfl) ?_
                  refine lv_iload_n hx hb kd_L_law_357 rfl (lv_at hl 3 rfl) ?_
                  refine lv_iconst (v := 1) hx hb kd_L_law_358 (by decide) ?_
                  refine lv_iadd hx hb kd_L_law_359 ?_
                  refine lx_sld (i := 4 * j + 1 + 1) hx hb hX hbl hbA hS (nI_add (4 * j + 1) 1) (by omega) (by omega) kd_L_law_360 ?_
                  refine lv_aload_n hx hb kd_L_law_361 rfl (lv_at hl 0 rfl) ?_
                  refine lv_iload_n hx hb kd_L_law_362 rfl (lv_at hl 3 rfl) ?_
                  refine lv_iconst (v := 2) hx hb kd_L_law_363 (by decide) ?_
                  refine lv_iadd hx hb kd_L_law_364 ?_
                  refine lx_sld (i := 4 * j + 1 + 2) hx hb hX hbl hbA hS (nI_add (4 * j + 1) 2) (by omega) (by omega) kd_L_law_365 ?_
                  refine lv_aload_n hx hb kd_L_law_366 rfl (lv_at hl 0 rfl) ?_
                  refine lv_iload_n hx hb kd_L_law_367 rfl (lv_at hl 3 rfl) ?_
                  refine lv_iconst (v := 3) hx hb kd_L_law_368 (by decide) ?_
                  refine lv_iadd hx hb kd_L_law_369 ?_
                  refine lx_sld (i := 4 * j + 1 + 3) hx hb hX hbl hbA hS (nI_add (4 * j + 1) 3) (by omega) (by omega) kd_L_law_370 ?_
                  refine lv_if_eq (tgt := 378) hx hb kd_L_law_371 (by decide) (fun c_4 => ?_) (fun c_4 => ?_)
                  · refine lv_iconst (v := 0) hx hb kd_L_law_378 (by decide) ?_
                    refine lx_Vi (K := kC n) (ad := aC) (G := gC n aC cN cB cL) (σ := σ) (κ := (0, 0)) (ci := 2) (fs := thisL aC σ) (wb := kW kM aM (gM n aM cI cZ cL2 μ)) (As := [.int (xs (4 * j + 1 + 1)), .int (xs (4 * j + 1 + 2)), .int 0]) (rest := []) (n := 3) hx hb hml hown hts hT (ct_S_bit l D hn aC cN cB cL σ (xs (4 * j + 1 + 1)) (xs (4 * j + 1 + 2)) 0 H.size) kw_192 kw_193 kw_194 kw_1 kw_195 (by decide +kernel) ⟨rfl, rfl⟩ ⟨Nat.le_of_ble_eq_true rfl, Nat.le_of_ble_eq_true rfl⟩ hKC hPC hDC hS hA kC_0 rfl rfl hPM (fun k q hq κ hκ => by obtain ⟨κ2, h2, rfl⟩ := kW_mem hq; exact hap κ hκ κ2 h2) rfl hl.1 (Nat.le_of_ble_eq_true rfl) kd_L_law_379 rfl ⟨Nat.le_of_ble_eq_true rfl, Nat.le_of_ble_eq_true rfl⟩ (fun r1 τ H locs hq1 hPC hDC hPM hS => ?_)
                    refine lv_aload_n hx hb kd_L_law_382 rfl (lv_at hl 2 rfl) ?_
                    refine lv_aload_n hx hb kd_L_law_383 rfl (lv_at hl 0 rfl) ?_
                    refine lv_iload_n hx hb kd_L_law_384 rfl (lv_at hl 3 rfl) ?_
                    refine lv_iconst (v := 1) hx hb kd_L_law_385 (by decide) ?_
                    refine lv_iadd hx hb kd_L_law_386 ?_
                    refine lx_sld (i := 4 * j + 1 + 1) hx hb hX hbl hbA hS (nI_add (4 * j + 1) 1) (by omega) (by omega) kd_L_law_387 ?_
                    refine lv_aload_n hx hb kd_L_law_388 rfl (lv_at hl 0 rfl) ?_
                    refine lv_iload_n hx hb kd_L_law_389 rfl (lv_at hl 3 rfl) ?_
                    refine lv_iconst (v := 2) hx hb kd_L_law_390 (by decide) ?_
                    refine lv_iadd hx hb kd_L_law_391 ?_
                    refine lx_sld (i := 4 * j + 1 + 2) hx hb hX hbl hbA hS (nI_add (4 * j + 1) 2) (by omega) (by omega) kd_L_law_392 ?_
                    refine lv_aload_n hx hb kd_L_law_393 rfl (lv_at hl 0 rfl) ?_
                    refine lv_iload_n hx hb kd_L_law_394 rfl (lv_at hl 3 rfl) ?_
                    refine lv_iconst (v := 3) hx hb kd_L_law_395 (by decide) ?_
                    refine lv_iadd hx hb kd_L_law_396 ?_
                    refine lx_sld (i := 4 * j + 1 + 3) hx hb hX hbl hbA hS (nI_add (4 * j + 1) 3) (by omega) (by omega) kd_L_law_397 ?_
                    refine lv_if_eq (tgt := 405) hx hb kd_L_law_398 (by decide) (fun c_5 => ?_) (fun c_5 => ?_)
                    · refine lv_iconst (v := 0) hx hb kd_L_law_405 (by decide) ?_
                      refine lx_Vi (K := kM) (ad := aM) (G := gM n aM cI cZ cL2) (σ := μ) (κ := (0, 0)) (ci := 3) (fs := thisM aM n μ) (wb := kW (kC n) aC (gC n aC cN cB cL τ)) (As := [.int (xs (4 * j + 1 + 1)), .int (xs (4 * j + 1 + 2)), .int 0]) (rest := [.int r1]) (n := 3) hx hb hml hown hts hT (ct_M_bit l D hn aM cI cZ cL2 μ (xs (4 * j + 1 + 1)) (xs (4 * j + 1 + 2)) 0 H.size) kw_363 kw_364 kw_365 kw_5 kw_366 (by decide +kernel) ⟨rfl, rfl⟩ ⟨Nat.le_of_ble_eq_true rfl, Nat.le_of_ble_eq_true rfl⟩ hKM hPM hDM hS hA kM_0 rfl rfl hPC (fun k q hq κ hκ => by obtain ⟨κ2, h2, rfl⟩ := kW_mem hq; exact fun z => hap κ2 h2 κ hκ z.symm) rfl hl.1 (Nat.le_of_ble_eq_true rfl) kd_L_law_406 rfl ⟨Nat.le_of_ble_eq_true rfl, Nat.le_of_ble_eq_true rfl⟩ (fun r2 ν H locs hq2 hPM hDM hPC hS => ?_)
                      obtain ⟨heq, k2, a2, ha2, hs2⟩ := op_bit hs hq1 hq2
                      refine lv_icmp_eq (tgt := 658) hx hb kd_L_law_409 (by decide) (fun _ => ?_) (fun c0 => absurd heq c0)
                      refine lv_iinc (v := nI (4 * (j + 1) + 1)) (lv' := [(3, .int (nI (4 * (j + 1) + 1))), (0, .ref b), (1, .ref (aC (0, 0))), (2, .ref (aM (0, 0)))]) hx hb kd_L_law_658 hl (k := 3) rfl (nI_add (4 * j + 1) 4) (by decide) rfl (fun ls hl => ?_)
                      refine lv_goto (tgt := 28) hx hb kd_L_law_661 (by decide) ?_
                      exact ih (j + 1) k2 a2 τ ν H locs ls (by omega) (by omega) (by omega) hs2 hPC hDC hPM hDM hS (lv_sub hl [1, 2, 3, 0] rfl)
                    · exact absurd c_4 c_5
                  · refine lv_iconst (v := 1) hx hb kd_L_law_374 (by decide) ?_
                    refine lv_goto (tgt := 379) hx hb kd_L_law_375 (by decide) ?_
                    refine lx_Vi (K := kC n) (ad := aC) (G := gC n aC cN cB cL) (σ := σ) (κ := (0, 0)) (ci := 2) (fs := thisL aC σ) (wb := kW kM aM (gM n aM cI cZ cL2 μ)) (As := [.int (xs (4 * j + 1 + 1)), .int (xs (4 * j + 1 + 2)), .int 1]) (rest := []) (n := 3) hx hb hml hown hts hT (ct_S_bit l D hn aC cN cB cL σ (xs (4 * j + 1 + 1)) (xs (4 * j + 1 + 2)) 1 H.size) kw_192 kw_193 kw_194 kw_1 kw_195 (by decide +kernel) ⟨rfl, rfl⟩ ⟨Nat.le_of_ble_eq_true rfl, Nat.le_of_ble_eq_true rfl⟩ hKC hPC hDC hS hA kC_0 rfl rfl hPM (fun k q hq κ hκ => by obtain ⟨κ2, h2, rfl⟩ := kW_mem hq; exact hap κ hκ κ2 h2) rfl hl.1 (Nat.le_of_ble_eq_true rfl) kd_L_law_379 rfl ⟨Nat.le_of_ble_eq_true rfl, Nat.le_of_ble_eq_true rfl⟩ (fun r1 τ H locs hq1 hPC hDC hPM hS => ?_)
                    refine lv_aload_n hx hb kd_L_law_382 rfl (lv_at hl 2 rfl) ?_
                    refine lv_aload_n hx hb kd_L_law_383 rfl (lv_at hl 0 rfl) ?_
                    refine lv_iload_n hx hb kd_L_law_384 rfl (lv_at hl 3 rfl) ?_
                    refine lv_iconst (v := 1) hx hb kd_L_law_385 (by decide) ?_
                    refine lv_iadd hx hb kd_L_law_386 ?_
                    refine lx_sld (i := 4 * j + 1 + 1) hx hb hX hbl hbA hS (nI_add (4 * j + 1) 1) (by omega) (by omega) kd_L_law_387 ?_
                    refine lv_aload_n hx hb kd_L_law_388 rfl (lv_at hl 0 rfl) ?_
                    refine lv_iload_n hx hb kd_L_law_389 rfl (lv_at hl 3 rfl) ?_
                    refine lv_iconst (v := 2) hx hb kd_L_law_390 (by decide) ?_
                    refine lv_iadd hx hb kd_L_law_391 ?_
                    refine lx_sld (i := 4 * j + 1 + 2) hx hb hX hbl hbA hS (nI_add (4 * j + 1) 2) (by omega) (by omega) kd_L_law_392 ?_
                    refine lv_aload_n hx hb kd_L_law_393 rfl (lv_at hl 0 rfl) ?_
                    refine lv_iload_n hx hb kd_L_law_394 rfl (lv_at hl 3 rfl) ?_
                    refine lv_iconst (v := 3) hx hb kd_L_law_395 (by decide) ?_
                    refine lv_iadd hx hb kd_L_law_396 ?_
                    refine lx_sld (i := 4 * j + 1 + 3) hx hb hX hbl hbA hS (nI_add (4 * j + 1) 3) (by omega) (by omega) kd_L_law_397 ?_
                    refine lv_if_eq (tgt := 405) hx hb kd_L_law_398 (by decide) (fun c_6 => ?_) (fun c_6 => ?_)
                    · exact absurd c_6 c_4
                    · refine lv_iconst (v := 1) hx hb kd_L_law_401 (by decide) ?_
                      refine lv_goto (tgt := 406) hx hb kd_L_law_402 (by decide) ?_
                      refine lx_Vi (K := kM) (ad := aM) (G := gM n aM cI cZ cL2) (σ := μ) (κ := (0, 0)) (ci := 3) (fs := thisM aM n μ) (wb := kW (kC n) aC (gC n aC cN cB cL τ)) (As := [.int (xs (4 * j + 1 + 1)), .int (xs (4 * j + 1 + 2)), .int 1]) (rest := [.int r1]) (n := 3) hx hb hml hown hts hT (ct_M_bit l D hn aM cI cZ cL2 μ (xs (4 * j + 1 + 1)) (xs (4 * j + 1 + 2)) 1 H.size) kw_363 kw_364 kw_365 kw_5 kw_366 (by decide +kernel) ⟨rfl, rfl⟩ ⟨Nat.le_of_ble_eq_true rfl, Nat.le_of_ble_eq_true rfl⟩ hKM hPM hDM hS hA kM_0 rfl rfl hPC (fun k q hq κ hκ => by obtain ⟨κ2, h2, rfl⟩ := kW_mem hq; exact fun z => hap κ2 h2 κ hκ z.symm) rfl hl.1 (Nat.le_of_ble_eq_true rfl) kd_L_law_406 rfl ⟨Nat.le_of_ble_eq_true rfl, Nat.le_of_ble_eq_true rfl⟩ (fun r2 ν H locs hq2 hPM hDM hPC hS => ?_)
                      obtain ⟨heq, k2, a2, ha2, hs2⟩ := op_bit hs hq1 hq2
                      refine lv_icmp_eq (tgt := 658) hx hb kd_L_law_409 (by decide) (fun _ => ?_) (fun c0 => absurd heq c0)
                      refine lv_iinc (v := nI (4 * (j + 1) + 1)) (lv' := [(3, .int (nI (4 * (j + 1) + 1))), (0, .ref b), (1, .ref (aC (0, 0))), (2, .ref (aM (0, 0)))]) hx hb kd_L_law_658 hl (k := 3) rfl (nI_add (4 * j + 1) 4) (by decide) rfl (fun ls hl => ?_)
                      refine lv_goto (tgt := 28) hx hb kd_L_law_661 (by decide) ?_
                      exact ih (j + 1) k2 a2 τ ν H locs ls (by omega) (by omega) (by omega) hs2 hPC hDC hPM hDM hS (lv_sub hl [1, 2, 3, 0] rfl)
                · by_cases d_6 : (xs (4 * j + 1)) &&& 15 = 6
                  · refine lv_tableIn (off := 372) (tgt := 414) hx hb kd_L_law_42 (by rw [d_6]; decide) (by rw [d_6]; decide) (by rw [d_6]; rfl) (by decide) ?_
                    refine lv_aload_n hx hb kd_L_law_414 rfl (lv_at hl 1 rfl) ?_
                    refine lv_aload_n hx hb kd_L_law_415 rfl (lv_at hl 0 rfl) ?_
                    refine lv_iload_n hx hb kd_L_law_416 rfl (lv_at hl 3 rfl) ?_
                    refine lv_iconst (v := 1) hx hb kd_L_law_417 (by decide) ?_
                    refine lv_iadd hx hb kd_L_law_418 ?_
                    refine lx_sld (i := 4 * j + 1 + 1) hx hb hX hbl hbA hS (nI_add (4 * j + 1) 1) (by omega) (by omega) kd_L_law_419 ?_
                    refine lv_aload_n hx hb kd_L_law_420 rfl (lv_at hl 0 rfl) ?_
                    refine lv_iload_n hx hb kd_L_law_421 rfl (lv_at hl 3 rfl) ?_
                    refine lv_iconst (v := 2) hx hb kd_L_law_422 (by decide) ?_
                    refine lv_iadd hx hb kd_L_law_423 ?_
                    refine lx_sld (i := 4 * j + 1 + 2) hx hb hX hbl hbA hS (nI_add (4 * j + 1) 2) (by omega) (by omega) kd_L_law_424 ?_
                    refine lv_i2l (v := (xs (4 * j + 1 + 2)).toInt64) hx hb kd_L_law_425 rfl ?_
                    refine lv_bipush (v := 32) hx hb kd_L_law_426 (by decide) ?_
                    refine lv_lshl (v := ((xs (4 * j + 1 + 2)).toInt64) <<< ((32 : Int32).toInt64 &&& 63)) hx hb kd_L_law_428 rfl ?_
                    refine lv_aload_n hx hb kd_L_law_429 rfl (lv_at hl 0 rfl) ?_
                    refine lv_iload_n hx hb kd_L_law_430 rfl (lv_at hl 3 rfl) ?_
                    refine lv_iconst (v := 3) hx hb kd_L_law_431 (by decide) ?_
                    refine lv_iadd hx hb kd_L_law_432 ?_
                    refine lx_sld (i := 4 * j + 1 + 3) hx hb hX hbl hbA hS (nI_add (4 * j + 1) 3) (by omega) (by omega) kd_L_law_433 ?_
                    refine lv_i2l (v := (xs (4 * j + 1 + 3)).toInt64) hx hb kd_L_law_434 rfl ?_
                    refine lv_ldc2 (v := 4294967295) hx hb hown (hw _ kw_393) kd_L_law_435 ?_
                    refine lv_land hx hb kd_L_law_438 ?_
                    refine lv_lor hx hb kd_L_law_439 ?_
                    refine lv_topl (fun t ht => ?_)
                    refine lx_Vi (K := kC n) (ad := aC) (G := gC n aC cN cB cL) (σ := σ) (κ := (0, 0)) (ci := 2) (fs := thisL aC σ) (wb := kW kM aM (gM n aM cI cZ cL2 μ)) (As := [.int (xs (4 * j + 1 + 1)), .long t]) (rest := []) (n := 2) hx hb hml hown hts hT (ct_S_needs l D hn aC cN cB cL σ (xs (4 * j + 1 + 1)) t hs.2.2.2.1 hA30 H.size) kw_202 kw_203 kw_204 kw_1 kw_205 (by decide +kernel) ⟨rfl, rfl⟩ ⟨Nat.le_of_ble_eq_true rfl, Nat.le_of_ble_eq_true rfl⟩ hKC hPC hDC hS hA kC_0 rfl rfl hPM (fun k q hq κ hκ => by obtain ⟨κ2, h2, rfl⟩ := kW_mem hq; exact hap κ hκ κ2 h2) rfl hl.1 (Nat.le_of_ble_eq_true rfl) kd_L_law_440 rfl ⟨Nat.le_of_ble_eq_true rfl, Nat.le_of_ble_eq_true rfl⟩ (fun r1 τ H locs hq1 hPC hDC hPM hS => ?_)
                    refine lv_aload_n hx hb kd_L_law_443 rfl (lv_at hl 2 rfl) ?_
                    refine lv_aload_n hx hb kd_L_law_444 rfl (lv_at hl 0 rfl) ?_
                    refine lv_iload_n hx hb kd_L_law_445 rfl (lv_at hl 3 rfl) ?_
                    refine lv_iconst (v := 1) hx hb kd_L_law_446 (by decide) ?_
                    refine lv_iadd hx hb kd_L_law_447 ?_
                    refine lx_sld (i := 4 * j + 1 + 1) hx hb hX hbl hbA hS (nI_add (4 * j + 1) 1) (by omega) (by omega) kd_L_law_448 ?_
                    refine lv_aload_n hx hb kd_L_law_449 rfl (lv_at hl 0 rfl) ?_
                    refine lv_iload_n hx hb kd_L_law_450 rfl (lv_at hl 3 rfl) ?_
                    refine lv_iconst (v := 2) hx hb kd_L_law_451 (by decide) ?_
                    refine lv_iadd hx hb kd_L_law_452 ?_
                    refine lx_sld (i := 4 * j + 1 + 2) hx hb hX hbl hbA hS (nI_add (4 * j + 1) 2) (by omega) (by omega) kd_L_law_453 ?_
                    refine lv_i2l (v := (xs (4 * j + 1 + 2)).toInt64) hx hb kd_L_law_454 rfl ?_
                    refine lv_bipush (v := 32) hx hb kd_L_law_455 (by decide) ?_
                    refine lv_lshl (v := ((xs (4 * j + 1 + 2)).toInt64) <<< ((32 : Int32).toInt64 &&& 63)) hx hb kd_L_law_457 rfl ?_
                    refine lv_aload_n hx hb kd_L_law_458 rfl (lv_at hl 0 rfl) ?_
                    refine lv_iload_n hx hb kd_L_law_459 rfl (lv_at hl 3 rfl) ?_
                    refine lv_iconst (v := 3) hx hb kd_L_law_460 (by decide) ?_
                    refine lv_iadd hx hb kd_L_law_461 ?_
                    refine lx_sld (i := 4 * j + 1 + 3) hx hb hX hbl hbA hS (nI_add (4 * j + 1) 3) (by omega) (by omega) kd_L_law_462 ?_
                    refine lv_i2l (v := (xs (4 * j + 1 + 3)).toInt64) hx hb kd_L_law_463 rfl ?_
                    refine lv_ldc2 (v := 4294967295) hx hb hown (hw _ kw_393) kd_L_law_464 ?_
                    refine lv_land hx hb kd_L_law_467 ?_
                    refine lv_lor hx hb kd_L_law_468 ?_
                    refine lv_topl (fun t2 ht2 => ?_)
                    obtain rfl : t = t2 := ht.trans ht2.symm
                    refine lx_Vi (K := kM) (ad := aM) (G := gM n aM cI cZ cL2) (σ := μ) (κ := (0, 0)) (ci := 3) (fs := thisM aM n μ) (wb := kW (kC n) aC (gC n aC cN cB cL τ)) (As := [.int (xs (4 * j + 1 + 1)), .long t]) (rest := [.int r1]) (n := 2) hx hb hml hown hts hT (ct_M_needs l D hn aM cI cZ cL2 μ (xs (4 * j + 1 + 1)) t hs.2.2.2.2.1 hA30 H.size) kw_367 kw_368 kw_369 kw_5 kw_370 (by decide +kernel) ⟨rfl, rfl⟩ ⟨Nat.le_of_ble_eq_true rfl, Nat.le_of_ble_eq_true rfl⟩ hKM hPM hDM hS hA kM_0 rfl rfl hPC (fun k q hq κ hκ => by obtain ⟨κ2, h2, rfl⟩ := kW_mem hq; exact fun z => hap κ2 h2 κ hκ z.symm) rfl hl.1 (Nat.le_of_ble_eq_true rfl) kd_L_law_469 rfl ⟨Nat.le_of_ble_eq_true rfl, Nat.le_of_ble_eq_true rfl⟩ (fun r2 ν H locs hq2 hPM hDM hPC hS => ?_)
                    obtain ⟨heq, k2, a2, ha2, hs2⟩ := op_needs hn.2 hA30 hs hq1 hq2
                    refine lv_icmp_eq (tgt := 658) hx hb kd_L_law_472 (by decide) (fun _ => ?_) (fun c0 => absurd heq c0)
                    refine lv_iinc (v := nI (4 * (j + 1) + 1)) (lv' := [(3, .int (nI (4 * (j + 1) + 1))), (0, .ref b), (1, .ref (aC (0, 0))), (2, .ref (aM (0, 0)))]) hx hb kd_L_law_658 hl (k := 3) rfl (nI_add (4 * j + 1) 4) (by decide) rfl (fun ls hl => ?_)
                    refine lv_goto (tgt := 28) hx hb kd_L_law_661 (by decide) ?_
                    exact ih (j + 1) k2 a2 τ ν H locs ls (by omega) (by omega) (by omega) hs2 hPC hDC hPM hDM hS (lv_sub hl [1, 2, 3, 0] rfl)
                  · by_cases d_7 : (xs (4 * j + 1)) &&& 15 = 7
                    · refine lv_tableIn (off := 435) (tgt := 477) hx hb kd_L_law_42 (by rw [d_7]; decide) (by rw [d_7]; decide) (by rw [d_7]; rfl) (by decide) ?_
                      refine lv_aload_n hx hb kd_L_law_477 rfl (lv_at hl 1 rfl) ?_
                      refine lv_aload_n hx hb kd_L_law_478 rfl (lv_at hl 0 rfl) ?_
                      refine lv_iload_n hx hb kd_L_law_479 rfl (lv_at hl 3 rfl) ?_
                      refine lv_iconst (v := 1) hx hb kd_L_law_480 (by decide) ?_
                      refine lv_iadd hx hb kd_L_law_481 ?_
                      refine lx_sld (i := 4 * j + 1 + 1) hx hb hX hbl hbA hS (nI_add (4 * j + 1) 1) (by omega) (by omega) kd_L_law_482 ?_
                      refine lv_aload_n hx hb kd_L_law_483 rfl (lv_at hl 0 rfl) ?_
                      refine lv_iload_n hx hb kd_L_law_484 rfl (lv_at hl 3 rfl) ?_
                      refine lv_iconst (v := 2) hx hb kd_L_law_485 (by decide) ?_
                      refine lv_iadd hx hb kd_L_law_486 ?_
                      refine lx_sld (i := 4 * j + 1 + 2) hx hb hX hbl hbA hS (nI_add (4 * j + 1) 2) (by omega) (by omega) kd_L_law_487 ?_
                      refine lx_Vi (K := kC n) (ad := aC) (G := gC n aC cN cB cL) (σ := σ) (κ := (0, 0)) (ci := 2) (fs := thisL aC σ) (wb := kW kM aM (gM n aM cI cZ cL2 μ)) (As := [.int (xs (4 * j + 1 + 1)), .int (xs (4 * j + 1 + 2))]) (rest := []) (n := 2) hx hb hml hown hts hT (ct_S_coordinate l D hn aC cN cB cL σ (xs (4 * j + 1 + 1)) (xs (4 * j + 1 + 2)) H.size) kw_210 kw_211 kw_212 kw_1 kw_213 (by decide +kernel) ⟨rfl, rfl⟩ ⟨Nat.le_of_ble_eq_true rfl, Nat.le_of_ble_eq_true rfl⟩ hKC hPC hDC hS hA kC_0 rfl rfl hPM (fun k q hq κ hκ => by obtain ⟨κ2, h2, rfl⟩ := kW_mem hq; exact hap κ hκ κ2 h2) rfl hl.1 (Nat.le_of_ble_eq_true rfl) kd_L_law_488 rfl ⟨Nat.le_of_ble_eq_true rfl, Nat.le_of_ble_eq_true rfl⟩ (fun r1 τ H locs hq1 hPC hDC hPM hS => ?_)
                      refine lv_aload_n hx hb kd_L_law_491 rfl (lv_at hl 2 rfl) ?_
                      refine lv_aload_n hx hb kd_L_law_492 rfl (lv_at hl 0 rfl) ?_
                      refine lv_iload_n hx hb kd_L_law_493 rfl (lv_at hl 3 rfl) ?_
                      refine lv_iconst (v := 1) hx hb kd_L_law_494 (by decide) ?_
                      refine lv_iadd hx hb kd_L_law_495 ?_
                      refine lx_sld (i := 4 * j + 1 + 1) hx hb hX hbl hbA hS (nI_add (4 * j + 1) 1) (by omega) (by omega) kd_L_law_496 ?_
                      refine lv_aload_n hx hb kd_L_law_497 rfl (lv_at hl 0 rfl) ?_
                      refine lv_iload_n hx hb kd_L_law_498 rfl (lv_at hl 3 rfl) ?_
                      refine lv_iconst (v := 2) hx hb kd_L_law_499 (by decide) ?_
                      refine lv_iadd hx hb kd_L_law_500 ?_
                      refine lx_sld (i := 4 * j + 1 + 2) hx hb hX hbl hbA hS (nI_add (4 * j + 1) 2) (by omega) (by omega) kd_L_law_501 ?_
                      refine lx_Vi (K := kM) (ad := aM) (G := gM n aM cI cZ cL2) (σ := μ) (κ := (0, 0)) (ci := 3) (fs := thisM aM n μ) (wb := kW (kC n) aC (gC n aC cN cB cL τ)) (As := [.int (xs (4 * j + 1 + 1)), .int (xs (4 * j + 1 + 2))]) (rest := [.int r1]) (n := 2) hx hb hml hown hts hT (ct_M_coordinate l D hn aM cI cZ cL2 μ (xs (4 * j + 1 + 1)) (xs (4 * j + 1 + 2)) H.size) kw_372 kw_373 kw_374 kw_5 kw_375 (by decide +kernel) ⟨rfl, rfl⟩ ⟨Nat.le_of_ble_eq_true rfl, Nat.le_of_ble_eq_true rfl⟩ hKM hPM hDM hS hA kM_0 rfl rfl hPC (fun k q hq κ hκ => by obtain ⟨κ2, h2, rfl⟩ := kW_mem hq; exact fun z => hap κ2 h2 κ hκ z.symm) rfl hl.1 (Nat.le_of_ble_eq_true rfl) kd_L_law_502 rfl ⟨Nat.le_of_ble_eq_true rfl, Nat.le_of_ble_eq_true rfl⟩ (fun r2 ν H locs hq2 hPM hDM hPC hS => ?_)
                      obtain ⟨heq, k2, a2, ha2, hs2⟩ := op_coordinate hs hq1 hq2
                      refine lv_icmp_eq (tgt := 658) hx hb kd_L_law_505 (by decide) (fun _ => ?_) (fun c0 => absurd heq c0)
                      refine lv_iinc (v := nI (4 * (j + 1) + 1)) (lv' := [(3, .int (nI (4 * (j + 1) + 1))), (0, .ref b), (1, .ref (aC (0, 0))), (2, .ref (aM (0, 0)))]) hx hb kd_L_law_658 hl (k := 3) rfl (nI_add (4 * j + 1) 4) (by decide) rfl (fun ls hl => ?_)
                      refine lv_goto (tgt := 28) hx hb kd_L_law_661 (by decide) ?_
                      exact ih (j + 1) k2 a2 τ ν H locs ls (by omega) (by omega) (by omega) hs2 hPC hDC hPM hDM hS (lv_sub hl [1, 2, 3, 0] rfl)
                    · by_cases d_8 : (xs (4 * j + 1)) &&& 15 = 8
                      · refine lv_tableIn (off := 468) (tgt := 510) hx hb kd_L_law_42 (by rw [d_8]; decide) (by rw [d_8]; decide) (by rw [d_8]; rfl) (by decide) ?_
                        refine lv_aload_n hx hb kd_L_law_510 rfl (lv_at hl 1 rfl) ?_
                        refine lv_aload_n hx hb kd_L_law_511 rfl (lv_at hl 0 rfl) ?_
                        refine lv_iload_n hx hb kd_L_law_512 rfl (lv_at hl 3 rfl) ?_
                        refine lv_iconst (v := 1) hx hb kd_L_law_513 (by decide) ?_
                        refine lv_iadd hx hb kd_L_law_514 ?_
                        refine lx_sld (i := 4 * j + 1 + 1) hx hb hX hbl hbA hS (nI_add (4 * j + 1) 1) (by omega) (by omega) kd_L_law_515 ?_
                        refine lv_aload_n hx hb kd_L_law_516 rfl (lv_at hl 0 rfl) ?_
                        refine lv_iload_n hx hb kd_L_law_517 rfl (lv_at hl 3 rfl) ?_
                        refine lv_iconst (v := 2) hx hb kd_L_law_518 (by decide) ?_
                        refine lv_iadd hx hb kd_L_law_519 ?_
                        refine lx_sld (i := 4 * j + 1 + 2) hx hb hX hbl hbA hS (nI_add (4 * j + 1) 2) (by omega) (by omega) kd_L_law_520 ?_
                        refine lv_if_eq (tgt := 528) hx hb kd_L_law_521 (by decide) (fun c_7 => ?_) (fun c_7 => ?_)
                        · refine lv_iconst (v := 0) hx hb kd_L_law_528 (by decide) ?_
                          refine lx_Vi (K := kC n) (ad := aC) (G := gC n aC cN cB cL) (σ := σ) (κ := (0, 0)) (ci := 2) (fs := thisL aC σ) (wb := kW kM aM (gM n aM cI cZ cL2 μ)) (As := [.int (xs (4 * j + 1 + 1)), .int 0]) (rest := []) (n := 2) hx hb hml hown hts hT (ct_S_passive l D hn aC cN cB cL σ (xs (4 * j + 1 + 1)) 0 (by decide) H.size) kw_218 kw_219 kw_220 kw_1 kw_221 (by decide +kernel) ⟨rfl, rfl⟩ ⟨Nat.le_of_ble_eq_true rfl, Nat.le_of_ble_eq_true rfl⟩ hKC hPC hDC hS hA kC_0 rfl rfl hPM (fun k q hq κ hκ => by obtain ⟨κ2, h2, rfl⟩ := kW_mem hq; exact hap κ hκ κ2 h2) rfl hl.1 (Nat.le_of_ble_eq_true rfl) kd_L_law_529 rfl ⟨Nat.le_of_ble_eq_true rfl, Nat.le_of_ble_eq_true rfl⟩ (fun r1 τ H locs hq1 hPC hDC hPM hS => ?_)
                          refine lv_aload_n hx hb kd_L_law_532 rfl (lv_at hl 2 rfl) ?_
                          refine lv_aload_n hx hb kd_L_law_533 rfl (lv_at hl 0 rfl) ?_
                          refine lv_iload_n hx hb kd_L_law_534 rfl (lv_at hl 3 rfl) ?_
                          refine lv_iconst (v := 1) hx hb kd_L_law_535 (by decide) ?_
                          refine lv_iadd hx hb kd_L_law_536 ?_
                          refine lx_sld (i := 4 * j + 1 + 1) hx hb hX hbl hbA hS (nI_add (4 * j + 1) 1) (by omega) (by omega) kd_L_law_537 ?_
                          refine lv_aload_n hx hb kd_L_law_538 rfl (lv_at hl 0 rfl) ?_
                          refine lv_iload_n hx hb kd_L_law_539 rfl (lv_at hl 3 rfl) ?_
                          refine lv_iconst (v := 2) hx hb kd_L_law_540 (by decide) ?_
                          refine lv_iadd hx hb kd_L_law_541 ?_
                          refine lx_sld (i := 4 * j + 1 + 2) hx hb hX hbl hbA hS (nI_add (4 * j + 1) 2) (by omega) (by omega) kd_L_law_542 ?_
                          refine lv_if_eq (tgt := 550) hx hb kd_L_law_543 (by decide) (fun c_8 => ?_) (fun c_8 => ?_)
                          · refine lv_iconst (v := 0) hx hb kd_L_law_550 (by decide) ?_
                            refine lx_Vi (K := kM) (ad := aM) (G := gM n aM cI cZ cL2) (σ := μ) (κ := (0, 0)) (ci := 3) (fs := thisM aM n μ) (wb := kW (kC n) aC (gC n aC cN cB cL τ)) (As := [.int (xs (4 * j + 1 + 1)), .int 0]) (rest := [.int r1]) (n := 2) hx hb hml hown hts hT (ct_M_passive l D hn aM cI cZ cL2 μ (xs (4 * j + 1 + 1)) 0 (by decide) H.size) kw_376 kw_377 kw_378 kw_5 kw_379 (by decide +kernel) ⟨rfl, rfl⟩ ⟨Nat.le_of_ble_eq_true rfl, Nat.le_of_ble_eq_true rfl⟩ hKM hPM hDM hS hA kM_0 rfl rfl hPC (fun k q hq κ hκ => by obtain ⟨κ2, h2, rfl⟩ := kW_mem hq; exact fun z => hap κ2 h2 κ hκ z.symm) rfl hl.1 (Nat.le_of_ble_eq_true rfl) kd_L_law_551 rfl ⟨Nat.le_of_ble_eq_true rfl, Nat.le_of_ble_eq_true rfl⟩ (fun r2 ν H locs hq2 hPM hDM hPC hS => ?_)
                            obtain ⟨heq, k2, a2, ha2, hs2⟩ := op_passive hs hq1 hq2
                            refine lv_icmp_eq (tgt := 658) hx hb kd_L_law_554 (by decide) (fun _ => ?_) (fun c0 => absurd heq c0)
                            refine lv_iinc (v := nI (4 * (j + 1) + 1)) (lv' := [(3, .int (nI (4 * (j + 1) + 1))), (0, .ref b), (1, .ref (aC (0, 0))), (2, .ref (aM (0, 0)))]) hx hb kd_L_law_658 hl (k := 3) rfl (nI_add (4 * j + 1) 4) (by decide) rfl (fun ls hl => ?_)
                            refine lv_goto (tgt := 28) hx hb kd_L_law_661 (by decide) ?_
                            exact ih (j + 1) k2 a2 τ ν H locs ls (by omega) (by omega) (by omega) hs2 hPC hDC hPM hDM hS (lv_sub hl [1, 2, 3, 0] rfl)
                          · exact absurd c_7 c_8
                        · refine lv_iconst (v := 1) hx hb kd_L_law_524 (by decide) ?_
                          refine lv_goto (tgt := 529) hx hb kd_L_law_525 (by decide) ?_
                          refine lx_Vi (K := kC n) (ad := aC) (G := gC n aC cN cB cL) (σ := σ) (κ := (0, 0)) (ci := 2) (fs := thisL aC σ) (wb := kW kM aM (gM n aM cI cZ cL2 μ)) (As := [.int (xs (4 * j + 1 + 1)), .int 1]) (rest := []) (n := 2) hx hb hml hown hts hT (ct_S_passive l D hn aC cN cB cL σ (xs (4 * j + 1 + 1)) 1 (by decide) H.size) kw_218 kw_219 kw_220 kw_1 kw_221 (by decide +kernel) ⟨rfl, rfl⟩ ⟨Nat.le_of_ble_eq_true rfl, Nat.le_of_ble_eq_true rfl⟩ hKC hPC hDC hS hA kC_0 rfl rfl hPM (fun k q hq κ hκ => by obtain ⟨κ2, h2, rfl⟩ := kW_mem hq; exact hap κ hκ κ2 h2) rfl hl.1 (Nat.le_of_ble_eq_true rfl) kd_L_law_529 rfl ⟨Nat.le_of_ble_eq_true rfl, Nat.le_of_ble_eq_true rfl⟩ (fun r1 τ H locs hq1 hPC hDC hPM hS => ?_)
                          refine lv_aload_n hx hb kd_L_law_532 rfl (lv_at hl 2 rfl) ?_
                          refine lv_aload_n hx hb kd_L_law_533 rfl (lv_at hl 0 rfl) ?_
                          refine lv_iload_n hx hb kd_L_law_534 rfl (lv_at hl 3 rfl) ?_
                          refine lv_iconst (v := 1) hx hb kd_L_law_535 (by decide) ?_
                          refine lv_iadd hx hb kd_L_law_536 ?_
                          refine lx_sld (i := 4 * j + 1 + 1) hx hb hX hbl hbA hS (nI_add (4 * j + 1) 1) (by omega) (by omega) kd_L_law_537 ?_
                          refine lv_aload_n hx hb kd_L_law_538 rfl (lv_at hl 0 rfl) ?_
                          refine lv_iload_n hx hb kd_L_law_539 rfl (lv_at hl 3 rfl) ?_
                          refine lv_iconst (v := 2) hx hb kd_L_law_540 (by decide) ?_
                          refine lv_iadd hx hb kd_L_law_541 ?_
                          refine lx_sld (i := 4 * j + 1 + 2) hx hb hX hbl hbA hS (nI_add (4 * j + 1) 2) (by omega) (by omega) kd_L_law_542 ?_
                          refine lv_if_eq (tgt := 550) hx hb kd_L_law_543 (by decide) (fun c_9 => ?_) (fun c_9 => ?_)
                          · exact absurd c_9 c_7
                          · refine lv_iconst (v := 1) hx hb kd_L_law_546 (by decide) ?_
                            refine lv_goto (tgt := 551) hx hb kd_L_law_547 (by decide) ?_
                            refine lx_Vi (K := kM) (ad := aM) (G := gM n aM cI cZ cL2) (σ := μ) (κ := (0, 0)) (ci := 3) (fs := thisM aM n μ) (wb := kW (kC n) aC (gC n aC cN cB cL τ)) (As := [.int (xs (4 * j + 1 + 1)), .int 1]) (rest := [.int r1]) (n := 2) hx hb hml hown hts hT (ct_M_passive l D hn aM cI cZ cL2 μ (xs (4 * j + 1 + 1)) 1 (by decide) H.size) kw_376 kw_377 kw_378 kw_5 kw_379 (by decide +kernel) ⟨rfl, rfl⟩ ⟨Nat.le_of_ble_eq_true rfl, Nat.le_of_ble_eq_true rfl⟩ hKM hPM hDM hS hA kM_0 rfl rfl hPC (fun k q hq κ hκ => by obtain ⟨κ2, h2, rfl⟩ := kW_mem hq; exact fun z => hap κ2 h2 κ hκ z.symm) rfl hl.1 (Nat.le_of_ble_eq_true rfl) kd_L_law_551 rfl ⟨Nat.le_of_ble_eq_true rfl, Nat.le_of_ble_eq_true rfl⟩ (fun r2 ν H locs hq2 hPM hDM hPC hS => ?_)
                            obtain ⟨heq, k2, a2, ha2, hs2⟩ := op_passive hs hq1 hq2
                            refine lv_icmp_eq (tgt := 658) hx hb kd_L_law_554 (by decide) (fun _ => ?_) (fun c0 => absurd heq c0)
                            refine lv_iinc (v := nI (4 * (j + 1) + 1)) (lv' := [(3, .int (nI (4 * (j + 1) + 1))), (0, .ref b), (1, .ref (aC (0, 0))), (2, .ref (aM (0, 0)))]) hx hb kd_L_law_658 hl (k := 3) rfl (nI_add (4 * j + 1) 4) (by decide) rfl (fun ls hl => ?_)
                            refine lv_goto (tgt := 28) hx hb kd_L_law_661 (by decide) ?_
                            exact ih (j + 1) k2 a2 τ ν H locs ls (by omega) (by omega) (by omega) hs2 hPC hDC hPM hDM hS (lv_sub hl [1, 2, 3, 0] rfl)
                      · by_cases d_9 : (xs (4 * j + 1)) &&& 15 = 9
                        · refine lv_tableIn (off := 517) (tgt := 559) hx hb kd_L_law_42 (by rw [d_9]; decide) (by rw [d_9]; decide) (by rw [d_9]; rfl) (by decide) ?_
                          refine lv_aload_n hx hb kd_L_law_559 rfl (lv_at hl 1 rfl) ?_
                          refine lv_aload_n hx hb kd_L_law_560 rfl (lv_at hl 0 rfl) ?_
                          refine lv_iload_n hx hb kd_L_law_561 rfl (lv_at hl 3 rfl) ?_
                          refine lv_iconst (v := 1) hx hb kd_L_law_562 (by decide) ?_
                          refine lv_iadd hx hb kd_L_law_563 ?_
                          refine lx_sld (i := 4 * j + 1 + 1) hx hb hX hbl hbA hS (nI_add (4 * j + 1) 1) (by omega) (by omega) kd_L_law_564 ?_
                          refine lx_Vi (K := kC n) (ad := aC) (G := gC n aC cN cB cL) (σ := σ) (κ := (0, 0)) (ci := 2) (fs := thisL aC σ) (wb := kW kM aM (gM n aM cI cZ cL2 μ)) (As := [.int (xs (4 * j + 1 + 1))]) (rest := []) (n := 1) hx hb hml hown hts hT (ct_S_never l D hn aC cN cB cL σ (xs (4 * j + 1 + 1)) H.size) kw_222 kw_223 kw_224 kw_1 kw_225 (by decide +kernel) ⟨rfl, rfl⟩ ⟨Nat.le_of_ble_eq_true rfl, Nat.le_of_ble_eq_true rfl⟩ hKC hPC hDC hS hA kC_0 rfl rfl hPM (fun k q hq κ hκ => by obtain ⟨κ2, h2, rfl⟩ := kW_mem hq; exact hap κ hκ κ2 h2) rfl hl.1 (Nat.le_of_ble_eq_true rfl) kd_L_law_565 rfl ⟨Nat.le_of_ble_eq_true rfl, Nat.le_of_ble_eq_true rfl⟩ (fun r1 τ H locs hq1 hPC hDC hPM hS => ?_)
                          refine lv_aload_n hx hb kd_L_law_568 rfl (lv_at hl 2 rfl) ?_
                          refine lv_aload_n hx hb kd_L_law_569 rfl (lv_at hl 0 rfl) ?_
                          refine lv_iload_n hx hb kd_L_law_570 rfl (lv_at hl 3 rfl) ?_
                          refine lv_iconst (v := 1) hx hb kd_L_law_571 (by decide) ?_
                          refine lv_iadd hx hb kd_L_law_572 ?_
                          refine lx_sld (i := 4 * j + 1 + 1) hx hb hX hbl hbA hS (nI_add (4 * j + 1) 1) (by omega) (by omega) kd_L_law_573 ?_
                          refine lx_Vi (K := kM) (ad := aM) (G := gM n aM cI cZ cL2) (σ := μ) (κ := (0, 0)) (ci := 3) (fs := thisM aM n μ) (wb := kW (kC n) aC (gC n aC cN cB cL τ)) (As := [.int (xs (4 * j + 1 + 1))]) (rest := [.int r1]) (n := 1) hx hb hml hown hts hT (ct_M_never l D hn aM cI cZ cL2 μ (xs (4 * j + 1 + 1)) H.size) kw_380 kw_381 kw_382 kw_5 kw_383 (by decide +kernel) ⟨rfl, rfl⟩ ⟨Nat.le_of_ble_eq_true rfl, Nat.le_of_ble_eq_true rfl⟩ hKM hPM hDM hS hA kM_0 rfl rfl hPC (fun k q hq κ hκ => by obtain ⟨κ2, h2, rfl⟩ := kW_mem hq; exact fun z => hap κ2 h2 κ hκ z.symm) rfl hl.1 (Nat.le_of_ble_eq_true rfl) kd_L_law_574 rfl ⟨Nat.le_of_ble_eq_true rfl, Nat.le_of_ble_eq_true rfl⟩ (fun r2 ν H locs hq2 hPM hDM hPC hS => ?_)
                          obtain ⟨heq, k2, a2, ha2, hs2⟩ := op_never hs hq1 hq2
                          refine lv_icmp_eq (tgt := 658) hx hb kd_L_law_577 (by decide) (fun _ => ?_) (fun c0 => absurd heq c0)
                          refine lv_iinc (v := nI (4 * (j + 1) + 1)) (lv' := [(3, .int (nI (4 * (j + 1) + 1))), (0, .ref b), (1, .ref (aC (0, 0))), (2, .ref (aM (0, 0)))]) hx hb kd_L_law_658 hl (k := 3) rfl (nI_add (4 * j + 1) 4) (by decide) rfl (fun ls hl => ?_)
                          refine lv_goto (tgt := 28) hx hb kd_L_law_661 (by decide) ?_
                          exact ih (j + 1) k2 a2 τ ν H locs ls (by omega) (by omega) (by omega) hs2 hPC hDC hPM hDM hS (lv_sub hl [1, 2, 3, 0] rfl)
                        · by_cases d_10 : (xs (4 * j + 1)) &&& 15 = 10
                          · refine lv_tableIn (off := 540) (tgt := 582) hx hb kd_L_law_42 (by rw [d_10]; decide) (by rw [d_10]; decide) (by rw [d_10]; rfl) (by decide) ?_
                            refine lv_aload_n hx hb kd_L_law_582 rfl (lv_at hl 1 rfl) ?_
                            refine lv_aload_n hx hb kd_L_law_583 rfl (lv_at hl 0 rfl) ?_
                            refine lv_iload_n hx hb kd_L_law_584 rfl (lv_at hl 3 rfl) ?_
                            refine lv_iconst (v := 1) hx hb kd_L_law_585 (by decide) ?_
                            refine lv_iadd hx hb kd_L_law_586 ?_
                            refine lx_sld (i := 4 * j + 1 + 1) hx hb hX hbl hbA hS (nI_add (4 * j + 1) 1) (by omega) (by omega) kd_L_law_587 ?_
                            refine lv_aload_n hx hb kd_L_law_588 rfl (lv_at hl 0 rfl) ?_
                            refine lv_iload_n hx hb kd_L_law_589 rfl (lv_at hl 3 rfl) ?_
                            refine lv_iconst (v := 2) hx hb kd_L_law_590 (by decide) ?_
                            refine lv_iadd hx hb kd_L_law_591 ?_
                            refine lx_sld (i := 4 * j + 1 + 2) hx hb hX hbl hbA hS (nI_add (4 * j + 1) 2) (by omega) (by omega) kd_L_law_592 ?_
                            refine lv_i2l (v := (xs (4 * j + 1 + 2)).toInt64) hx hb kd_L_law_593 rfl ?_
                            refine lv_bipush (v := 32) hx hb kd_L_law_594 (by decide) ?_
                            refine lv_lshl (v := ((xs (4 * j + 1 + 2)).toInt64) <<< ((32 : Int32).toInt64 &&& 63)) hx hb kd_L_law_596 rfl ?_
                            refine lv_aload_n hx hb kd_L_law_597 rfl (lv_at hl 0 rfl) ?_
                            refine lv_iload_n hx hb kd_L_law_598 rfl (lv_at hl 3 rfl) ?_
                            refine lv_iconst (v := 3) hx hb kd_L_law_599 (by decide) ?_
                            refine lv_iadd hx hb kd_L_law_600 ?_
                            refine lx_sld (i := 4 * j + 1 + 3) hx hb hX hbl hbA hS (nI_add (4 * j + 1) 3) (by omega) (by omega) kd_L_law_601 ?_
                            refine lv_i2l (v := (xs (4 * j + 1 + 3)).toInt64) hx hb kd_L_law_602 rfl ?_
                            refine lv_ldc2 (v := 4294967295) hx hb hown (hw _ kw_393) kd_L_law_603 ?_
                            refine lv_land hx hb kd_L_law_606 ?_
                            refine lv_lor hx hb kd_L_law_607 ?_
                            refine lv_topl (fun t ht => ?_)
                            refine lx_Vi (K := kC n) (ad := aC) (G := gC n aC cN cB cL) (σ := σ) (κ := (0, 0)) (ci := 2) (fs := thisL aC σ) (wb := kW kM aM (gM n aM cI cZ cL2 μ)) (As := [.int (xs (4 * j + 1 + 1)), .long t]) (rest := []) (n := 2) hx hb hml hown hts hT (ct_S_limp l D hn aC cN cB cL σ (xs (4 * j + 1 + 1)) t hs.2.2.2.1 hA30 H.size) kw_227 kw_228 kw_229 kw_1 kw_230 (by decide +kernel) ⟨rfl, rfl⟩ ⟨Nat.le_of_ble_eq_true rfl, Nat.le_of_ble_eq_true rfl⟩ hKC hPC hDC hS hA kC_0 rfl rfl hPM (fun k q hq κ hκ => by obtain ⟨κ2, h2, rfl⟩ := kW_mem hq; exact hap κ hκ κ2 h2) rfl hl.1 (Nat.le_of_ble_eq_true rfl) kd_L_law_608 rfl ⟨Nat.le_of_ble_eq_true rfl, Nat.le_of_ble_eq_true rfl⟩ (fun r1 τ H locs hq1 hPC hDC hPM hS => ?_)
                            refine lv_aload_n hx hb kd_L_law_611 rfl (lv_at hl 2 rfl) ?_
                            refine lv_aload_n hx hb kd_L_law_612 rfl (lv_at hl 0 rfl) ?_
                            refine lv_iload_n hx hb kd_L_law_613 rfl (lv_at hl 3 rfl) ?_
                            refine lv_iconst (v := 1) hx hb kd_L_law_614 (by decide) ?_
                            refine lv_iadd hx hb kd_L_law_615 ?_
                            refine lx_sld (i := 4 * j + 1 + 1) hx hb hX hbl hbA hS (nI_add (4 * j + 1) 1) (by omega) (by omega) kd_L_law_616 ?_
                            refine lv_aload_n hx hb kd_L_law_617 rfl (lv_at hl 0 rfl) ?_
                            refine lv_iload_n hx hb kd_L_law_618 rfl (lv_at hl 3 rfl) ?_
                            refine lv_iconst (v := 2) hx hb kd_L_law_619 (by decide) ?_
                            refine lv_iadd hx hb kd_L_law_620 ?_
                            refine lx_sld (i := 4 * j + 1 + 2) hx hb hX hbl hbA hS (nI_add (4 * j + 1) 2) (by omega) (by omega) kd_L_law_621 ?_
                            refine lv_i2l (v := (xs (4 * j + 1 + 2)).toInt64) hx hb kd_L_law_622 rfl ?_
                            refine lv_bipush (v := 32) hx hb kd_L_law_623 (by decide) ?_
                            refine lv_lshl (v := ((xs (4 * j + 1 + 2)).toInt64) <<< ((32 : Int32).toInt64 &&& 63)) hx hb kd_L_law_625 rfl ?_
                            refine lv_aload_n hx hb kd_L_law_626 rfl (lv_at hl 0 rfl) ?_
                            refine lv_iload_n hx hb kd_L_law_627 rfl (lv_at hl 3 rfl) ?_
                            refine lv_iconst (v := 3) hx hb kd_L_law_628 (by decide) ?_
                            refine lv_iadd hx hb kd_L_law_629 ?_
                            refine lx_sld (i := 4 * j + 1 + 3) hx hb hX hbl hbA hS (nI_add (4 * j + 1) 3) (by omega) (by omega) kd_L_law_630 ?_
                            refine lv_i2l (v := (xs (4 * j + 1 + 3)).toInt64) hx hb kd_L_law_631 rfl ?_
                            refine lv_ldc2 (v := 4294967295) hx hb hown (hw _ kw_393) kd_L_law_632 ?_
                            refine lv_land hx hb kd_L_law_635 ?_
                            refine lv_lor hx hb kd_L_law_636 ?_
                            refine lv_topl (fun t2 ht2 => ?_)
                            obtain rfl : t = t2 := ht.trans ht2.symm
                            refine lx_Vi (K := kM) (ad := aM) (G := gM n aM cI cZ cL2) (σ := μ) (κ := (0, 0)) (ci := 3) (fs := thisM aM n μ) (wb := kW (kC n) aC (gC n aC cN cB cL τ)) (As := [.int (xs (4 * j + 1 + 1)), .long t]) (rest := [.int r1]) (n := 2) hx hb hml hown hts hT (ct_M_limp l D hn aM cI cZ cL2 μ (xs (4 * j + 1 + 1)) t hs.2.2.2.2.1 hA30 H.size) kw_385 kw_386 kw_387 kw_5 kw_388 (by decide +kernel) ⟨rfl, rfl⟩ ⟨Nat.le_of_ble_eq_true rfl, Nat.le_of_ble_eq_true rfl⟩ hKM hPM hDM hS hA kM_0 rfl rfl hPC (fun k q hq κ hκ => by obtain ⟨κ2, h2, rfl⟩ := kW_mem hq; exact fun z => hap κ2 h2 κ hκ z.symm) rfl hl.1 (Nat.le_of_ble_eq_true rfl) kd_L_law_637 rfl ⟨Nat.le_of_ble_eq_true rfl, Nat.le_of_ble_eq_true rfl⟩ (fun r2 ν H locs hq2 hPM hDM hPC hS => ?_)
                            obtain ⟨heq, k2, a2, ha2, hs2⟩ := op_limp hn.2 hA30 hs hq1 hq2
                            refine lv_icmp_eq (tgt := 658) hx hb kd_L_law_640 (by decide) (fun _ => ?_) (fun c0 => absurd heq c0)
                            refine lv_iinc (v := nI (4 * (j + 1) + 1)) (lv' := [(3, .int (nI (4 * (j + 1) + 1))), (0, .ref b), (1, .ref (aC (0, 0))), (2, .ref (aM (0, 0)))]) hx hb kd_L_law_658 hl (k := 3) rfl (nI_add (4 * j + 1) 4) (by decide) rfl (fun ls hl => ?_)
                            refine lv_goto (tgt := 28) hx hb kd_L_law_661 (by decide) ?_
                            exact ih (j + 1) k2 a2 τ ν H locs ls (by omega) (by omega) (by omega) hs2 hPC hDC hPM hDM hS (lv_sub hl [1, 2, 3, 0] rfl)
                          · by_cases d_11 : (xs (4 * j + 1)) &&& 15 = 11
                            · refine lv_tableIn (off := 603) (tgt := 645) hx hb kd_L_law_42 (by rw [d_11]; decide) (by rw [d_11]; decide) (by rw [d_11]; rfl) (by decide) ?_
                              refine lv_aload_n hx hb kd_L_law_645 rfl (lv_at hl 1 rfl) ?_
                              refine lx_Vi (K := kC n) (ad := aC) (G := gC n aC cN cB cL) (σ := σ) (κ := (0, 0)) (ci := 2) (fs := thisL aC σ) (wb := kW kM aM (gM n aM cI cZ cL2 μ)) (As := []) (rest := []) (n := 0) hx hb hml hown hts hT (ct_S_sleeps l D hn aC cN cB cL σ  H.size) kw_231 kw_145 kw_146 kw_1 kw_147 (by decide +kernel) ⟨rfl, rfl⟩ ⟨Nat.le_of_ble_eq_true rfl, Nat.le_of_ble_eq_true rfl⟩ hKC hPC hDC hS hA kC_0 rfl rfl hPM (fun k q hq κ hκ => by obtain ⟨κ2, h2, rfl⟩ := kW_mem hq; exact hap κ hκ κ2 h2) rfl hl.1 (Nat.le_of_ble_eq_true rfl) kd_L_law_646 rfl ⟨Nat.le_of_ble_eq_true rfl, Nat.le_of_ble_eq_true rfl⟩ (fun r1 τ H locs hq1 hPC hDC hPM hS => ?_)
                              refine lv_aload_n hx hb kd_L_law_649 rfl (lv_at hl 2 rfl) ?_
                              refine lx_Vi (K := kM) (ad := aM) (G := gM n aM cI cZ cL2) (σ := μ) (κ := (0, 0)) (ci := 3) (fs := thisM aM n μ) (wb := kW (kC n) aC (gC n aC cN cB cL τ)) (As := []) (rest := [.int r1]) (n := 0) hx hb hml hown hts hT (ct_M_sleeps l D hn aM cI cZ cL2 μ  H.size) kw_389 kw_390 kw_391 kw_5 kw_392 (by decide +kernel) ⟨rfl, rfl⟩ ⟨Nat.le_of_ble_eq_true rfl, Nat.le_of_ble_eq_true rfl⟩ hKM hPM hDM hS hA kM_0 rfl rfl hPC (fun k q hq κ hκ => by obtain ⟨κ2, h2, rfl⟩ := kW_mem hq; exact fun z => hap κ2 h2 κ hκ z.symm) rfl hl.1 (Nat.le_of_ble_eq_true rfl) kd_L_law_650 rfl ⟨Nat.le_of_ble_eq_true rfl, Nat.le_of_ble_eq_true rfl⟩ (fun r2 ν H locs hq2 hPM hDM hPC hS => ?_)
                              obtain ⟨heq, k2, a2, ha2, hs2⟩ := op_sleeps hs hq1 hq2
                              refine lv_icmp_eq (tgt := 658) hx hb kd_L_law_653 (by decide) (fun _ => ?_) (fun c0 => absurd heq c0)
                              refine lv_iinc (v := nI (4 * (j + 1) + 1)) (lv' := [(3, .int (nI (4 * (j + 1) + 1))), (0, .ref b), (1, .ref (aC (0, 0))), (2, .ref (aM (0, 0)))]) hx hb kd_L_law_658 hl (k := 3) rfl (nI_add (4 * j + 1) 4) (by decide) rfl (fun ls hl => ?_)
                              refine lv_goto (tgt := 28) hx hb kd_L_law_661 (by decide) ?_
                              exact ih (j + 1) k2 a2 τ ν H locs ls (by omega) (by omega) (by omega) hs2 hPC hDC hPM hDM hS (lv_sub hl [1, 2, 3, 0] rfl)
                            · refine lv_tableOut (tgt := 658) hx hb kd_L_law_42 (sw12 d_0 d_1 d_2 d_3 d_4 d_5 d_6 d_7 d_8 d_9 d_10 d_11) (by decide) ?_
                              refine lv_iinc (v := nI (4 * (j + 1) + 1)) (lv' := [(3, .int (nI (4 * (j + 1) + 1))), (0, .ref b), (1, .ref (aC (0, 0))), (2, .ref (aM (0, 0)))]) hx hb kd_L_law_658 hl (k := 3) rfl (nI_add (4 * j + 1) 4) (by decide) rfl (fun ls hl => ?_)
                              refine lv_goto (tgt := 28) hx hb kd_L_law_661 (by decide) ?_
                              exact ih (j + 1) k a σ μ H locs ls (by omega) (by omega) (by omega) hs hPC hDC hPM hDM hS (lv_sub hl [1, 2, 3, 0] rfl)
