/-! the calls, on both sides -/
theorem sim_0 {n : Nat} (hn : n ≤ 64) : Sim n 0 0 cs0 ms0 := by
  refine ⟨fun i hi => ⟨⟨rfl, rfl, rfl, rfl, rfl⟩, Or.inl rfl, fun z => absurd rfl z, fun z => absurd rfl z⟩, ⟨fun b c hb hc => ?_, fun b q hb hq => Or.inl ⟨rfl, fun _ => if_pos hq⟩⟩, fun b hb => ?_, rfl, rfl, rfl⟩
  · have hb8 : b < 8 := by unfold nbs at hb; omega
    have hc8 : c < 8 := by unfold nbs at hc; omega
    show nI b = nI c ↔ nmF 8 (b + 1) = nmF 8 (c + 1)
    unfold nmF
    rw [if_pos (by omega), if_pos (by omega), nI_eq (by omega) (by omega), nI_eq (by omega) (by omega)]
    omega
  · show (0 : Int32) = nI (cA cs0.1 b n)
    rw [(cA_0 n).mpr (fun i _ _ h => h.elim (fun z => absurd z (show ¬ (0 : Int32) = 4 by decide)) (fun z => absurd z (show ¬ (0 : Int32) = 3 by decide)))]
    rfl
theorem sim_c0 {n a : Nat} {k : Int32} {σ : CS} {μ : MS} (h : Sim n k a σ μ) : Sim n k a σ (mC0 μ) := h
theorem sim_w {n a : Nat} {k : Int32} {σ : CS} {μ : MS} (h : Sim n k a σ μ) {i : Nat} (hi : i < n) : wnt (σ.1 i) ↔ mWn (μ.1 (i + 1)) := by
  obtain ⟨h1, -⟩ := h.1 i hi
  unfold wnt mWn
  rw [h1.2.1, h1.2.2.1]
theorem sim_c {n a : Nat} {k : Int32} {σ : CS} {μ : MS} (h : Sim n k a σ μ) {i : Nat} (hi : i < n) : cwk (σ.1 i).1 ↔ ¬ (μ.1 (i + 1)).1 ≥ 2 := by
  obtain ⟨h1, h2, -⟩ := h.1 i hi
  rw [← h1.1]
  rcases h2 with e | e | e | e | e <;> rw [e] <;> decide
theorem sim_rq {n a : Nat} {k : Int32} {σ : CS} {μ : MS} {i : Nat} {on : Int32} (h : Sim n k a σ μ) (hi : i < n) : (rqF σ i on).1 = (mRqF μ (i + 1) on).1 ∧ Sim n k a (rqF σ i on).2 (mRqF μ (i + 1) on).2 := by
  have h0 := sim_c0 h
  obtain ⟨h1, h2, h3, h4⟩ := h0.1 i hi
  unfold rqF mRqF
  dsimp only
  generalize mC0 μ = ν at h0 h1 h4 ⊢
  by_cases ho : (σ.1 i).2.2.2.2.2.2.1 = 0
  · rw [if_pos ho, if_pos (show (ν.1 (i + 1)).2.2.2.1 = 0 by rw [← h1.2.2.2.1]; exact ho)]
    have z : Sim n k a (setN σ i ((σ.1 i).1, (σ.1 i).2.1, (σ.1 i).2.2.1, (σ.1 i).2.2.2.1, on, (σ.1 i).2.2.2.2.2.1, (σ.1 i).2.2.2.2.2.2.1, (σ.1 i).2.2.2.2.2.2.2)) (setM ν (i + 1) ((ν.1 (i + 1)).1, on, (ν.1 (i + 1)).2.2.1, (ν.1 (i + 1)).2.2.2.1, (ν.1 (i + 1)).2.2.2.2.1, (ν.1 (i + 1)).2.2.2.2.2.1, (ν.1 (i + 1)).2.2.2.2.2.2.1, (ν.1 (i + 1)).2.2.2.2.2.2.2.1, (ν.1 (i + 1)).2.2.2.2.2.2.2.2.1, (ν.1 (i + 1)).2.2.2.2.2.2.2.2.2)) := by
      obtain ⟨hN, hB, hA, ht, hm, hc⟩ := h0
      exact ⟨hN.up ⟨⟨h1.1, rfl, h1.2.2.1, h1.2.2.2.1, h1.2.2.2.2⟩, h2, fun y => absurd ho y, h4⟩, hB, hA.up Iff.rfl, ht, hm, hc⟩
    have e3 : ((setN σ i ((σ.1 i).1, (σ.1 i).2.1, (σ.1 i).2.2.1, (σ.1 i).2.2.2.1, on, (σ.1 i).2.2.2.2.2.1, (σ.1 i).2.2.2.2.2.2.1, (σ.1 i).2.2.2.2.2.2.2)).1 i).2.2.2.2.2.2.1 = 0 := by simp only [setN, va_up_self]; exact ho
    generalize setN σ i ((σ.1 i).1, (σ.1 i).2.1, (σ.1 i).2.2.1, (σ.1 i).2.2.2.1, on, (σ.1 i).2.2.2.2.2.1, (σ.1 i).2.2.2.2.2.2.1, (σ.1 i).2.2.2.2.2.2.2) = σ1 at z e3 ⊢
    generalize setM ν (i + 1) ((ν.1 (i + 1)).1, on, (ν.1 (i + 1)).2.2.1, (ν.1 (i + 1)).2.2.2.1, (ν.1 (i + 1)).2.2.2.2.1, (ν.1 (i + 1)).2.2.2.2.2.1, (ν.1 (i + 1)).2.2.2.2.2.2.1, (ν.1 (i + 1)).2.2.2.2.2.2.2.1, (ν.1 (i + 1)).2.2.2.2.2.2.2.2.1, (ν.1 (i + 1)).2.2.2.2.2.2.2.2.2) = ν1 at z ⊢
    have hw := sim_w z hi
    have hk := sim_c z hi
    by_cases w : wnt (σ1.1 i)
    · rw [if_pos w, if_pos (hw.mp w)]
      by_cases c : cwk (σ1.1 i).1
      · rw [if_pos c, if_neg (hk.mp c)]
        have y := sim_wk z hi e3
        exact ⟨(y.1 i hi).1.1, y⟩
      · rw [if_neg c, if_pos (Decidable.byContradiction (fun q => c (hk.mpr q)))]
        exact ⟨(z.1 i hi).1.1, z⟩
    · rw [if_neg w, if_neg (fun q => w (hw.mpr q))]
      exact ⟨(z.1 i hi).1.1, z⟩
  · rw [if_neg ho, if_neg (show ¬ (ν.1 (i + 1)).2.2.2.1 = 0 by rw [← h1.2.2.2.1]; exact ho)]
    exact ⟨rfl, h0⟩
theorem sim_al {n a : Nat} {k : Int32} {σ : CS} {μ : MS} {i : Nat} {t : Int64} (hn : n ≤ 64) (ha : a < 2 ^ 30) (h : Sim n k a σ μ) (hi : i < n) : (alF n σ i t).1 = (mAlF n μ (i + 1) t).1 ∧ ∃ a2, a2 ≤ a + 1000 ∧ Sim n k a2 (alF n σ i t).2 (mAlF n μ (i + 1) t).2 := by
  have h0 := sim_c0 h
  obtain ⟨h1, h2, h3, h4⟩ := h0.1 i hi
  unfold alF mAlF
  dsimp only
  generalize mC0 μ = ν at h0 h1 h4 ⊢
  have hok : okT σ.2.2.1 t ↔ okT ν.2.2.2.2.1 t := by rw [h0.2.2.2.1, h0.2.2.2.2.1]
  rw [← h1.2.2.2.1, ← h1.2.2.1]
  by_cases o : okT σ.2.2.1 t
  · rw [if_pos o, if_pos (hok.mp o)]
    by_cases ho : (σ.1 i).2.2.2.2.2.2.1 = 0
    · rw [if_pos ho, if_pos ho]
      by_cases hp : (σ.1 i).2.2.2.2.2.1 = 0
      · rw [if_pos hp, if_pos hp]
        obtain ⟨a2, ha1, ha2, z⟩ := sim_goT hn ha h0 o
        generalize goT n σ t = σ1 at z ⊢
        generalize mGoT n ν t = ν1 at z ⊢
        rw [← (z.1 i hi).1.1]
        by_cases s : (σ1.1 i).1 = 0
        · rw [if_pos s, if_pos s]
          exact ⟨rfl, a2, ha2, z⟩
        · rw [if_neg s, if_neg s]
          obtain ⟨y1, y2⟩ := sim_row hn z hi
          dsimp only
          exact ⟨y2, a2, ha2, y1⟩
      · rw [if_neg hp, if_neg hp]
        exact ⟨rfl, a, by omega, h0⟩
    · rw [if_neg ho, if_neg ho]
      exact ⟨rfl, a, by omega, h0⟩
  · rw [if_neg o, if_neg (fun q => o (hok.mpr q))]
    exact ⟨rfl, a, by omega, h0⟩
theorem sim_ti {n a : Nat} {k : Int32} {σ : CS} {μ : MS} {t : Int64} (hn : n ≤ 64) (ha : a < 2 ^ 30) (h : Sim n k a σ μ) : (tiF n σ t).1 = (mTiF n μ t).1 ∧ ∃ k2 a2, a2 ≤ a + 1000 ∧ Sim n k2 a2 (tiF n σ t).2 (mTiF n μ t).2 := by
  have h0 := sim_c0 h
  unfold tiF mTiF
  dsimp only
  generalize mC0 μ = ν at h0 ⊢
  have hok : okT σ.2.2.1 t ↔ okT ν.2.2.2.2.1 t := by rw [h0.2.2.2.1, h0.2.2.2.2.1]
  by_cases o : okT σ.2.2.1 t
  · rw [if_pos o, if_pos (hok.mp o)]
    obtain ⟨hN, hB, hA, ht, hm, hc⟩ := h0
    have h5 : Sim n σ.2.2.2 a σ (ν.1, ν.2.1, ν.2.2.1, ν.2.2.2.1, ν.2.2.2.2.1, 0, ν.2.2.2.2.2.2) := ⟨hN, hB, hA, ht, hm, (Int32.zero_add _).symm⟩
    obtain ⟨a2, ha1, ha2, z⟩ := sim_goT hn ha h5 o
    refine ⟨?_, _, a2, ha2, z⟩
    show (goT n σ t).2.2.2 - σ.2.2.2 = _
    rw [z.2.2.2.2.2, Int32.add_sub_cancel]
  · rw [if_neg o, if_neg (fun q => o (hok.mpr q))]
    exact ⟨rfl, k, a, by omega, h0⟩
theorem sim_st {n a : Nat} {k : Int32} {σ : CS} {μ : MS} {i : Nat} (h : Sim n k a σ μ) (hi : i < n) : (stF σ i).1 = (mStF μ (i + 1)).1 ∧ Sim n k a (stF σ i).2 (mStF μ (i + 1)).2 := ⟨(h.1 i hi).1.1, h⟩
theorem sim_pa {n a : Nat} {k : Int32} {σ : CS} {μ : MS} {i : Nat} {on : Int32} (h : Sim n k a σ μ) (hi : i < n) : (paF σ i on).1 = (mPaF μ (i + 1) on).1 ∧ Sim n k a (paF σ i on).2 (mPaF μ (i + 1) on).2 := by
  have h0 := sim_c0 h
  obtain ⟨h1, h2, h3, h4⟩ := h0.1 i hi
  unfold paF mPaF
  dsimp only
  generalize mC0 μ = ν at h0 h1 h4 ⊢
  have z : Sim n k a (setN σ i ((σ.1 i).1, (σ.1 i).2.1, (σ.1 i).2.2.1, (σ.1 i).2.2.2.1, (σ.1 i).2.2.2.2.1, on, (σ.1 i).2.2.2.2.2.2.1, (σ.1 i).2.2.2.2.2.2.2)) (setM ν (i + 1) ((ν.1 (i + 1)).1, (ν.1 (i + 1)).2.1, on, (ν.1 (i + 1)).2.2.2.1, (ν.1 (i + 1)).2.2.2.2.1, (ν.1 (i + 1)).2.2.2.2.2.1, (ν.1 (i + 1)).2.2.2.2.2.2.1, (ν.1 (i + 1)).2.2.2.2.2.2.2.1, (ν.1 (i + 1)).2.2.2.2.2.2.2.2.1, (ν.1 (i + 1)).2.2.2.2.2.2.2.2.2)) := by
    obtain ⟨hN, hB, hA, ht, hm, hc⟩ := h0
    exact ⟨hN.up ⟨⟨h1.1, h1.2.1, rfl, h1.2.2.2.1, h1.2.2.2.2⟩, h2, h3, h4⟩, hB, hA.up Iff.rfl, ht, hm, hc⟩
  exact ⟨(z.1 i hi).1.1, z⟩
theorem sim_wkL {n a : Nat} {k : Int32} {σ : CS} {μ : MS} {f : Int32} (h : Sim n k a σ μ) : ∀ j, j ≤ n → (wkL f σ j).2 = (mWkL f μ j).2 ∧ Sim n k a (wkL f σ j).1 (mWkL f μ j).1 := by
  intro j
  induction j with
  | zero => intro _; exact ⟨rfl, h⟩
  | succ j ih =>
    intro hj
    obtain ⟨e, z⟩ := ih (by omega)
    have hi : j < n := by omega
    obtain ⟨h1, h2, h3, h4⟩ := z.1 j hi
    have hk := sim_c z hi
    rw [wkL, mWkL, ← h1.2.2.2.1]
    by_cases c1 : nI (j + 1) - nI (j + 1) / 16 * 16 = f - f / 16 * 16
    · rw [if_pos c1, if_pos c1]
      by_cases c2 : ((wkL f σ j).1.1 j).2.2.2.2.2.2.1 = 0
      · rw [if_pos c2, if_pos c2]
        by_cases c3 : cwk ((wkL f σ j).1.1 j).1
        · rw [if_pos c3, if_neg (hk.mp c3)]
          exact ⟨by rw [e], sim_wk z hi c2⟩
        · rw [if_neg c3, if_pos (Decidable.byContradiction (fun q => c3 (hk.mpr q)))]
          exact ⟨e, z⟩
      · rw [if_neg c2, if_neg c2]
        exact ⟨e, z⟩
    · rw [if_neg c1, if_neg c1]
      exact ⟨e, z⟩
theorem sim_wa {n a : Nat} {k : Int32} {σ : CS} {μ : MS} {f : Int32} {t : Int64} (hn : n ≤ 64) (ha : a < 2 ^ 30) (h : Sim n k a σ μ) : (waF n σ f t).1 = (mWaF n μ f t).1 ∧ ∃ a2, a2 ≤ a + 1000 ∧ Sim n k a2 (waF n σ f t).2 (mWaF n μ f t).2 := by
  have h0 := sim_c0 h
  unfold waF mWaF
  dsimp only
  generalize mC0 μ = ν at h0 ⊢
  have hok : okT σ.2.2.1 t ↔ okT ν.2.2.2.2.1 t := by rw [h0.2.2.2.1, h0.2.2.2.2.1]
  by_cases c1 : f < 0
  · rw [if_pos c1, if_pos c1]
    exact ⟨rfl, a, by omega, h0⟩
  · rw [if_neg c1, if_neg c1]
    by_cases c2 : f > 2047
    · rw [if_pos c2, if_pos c2]
      exact ⟨rfl, a, by omega, h0⟩
    · rw [if_neg c2, if_neg c2]
      by_cases o : okT σ.2.2.1 t
      · rw [if_pos o, if_pos (hok.mp o)]
        obtain ⟨a2, ha1, ha2, z⟩ := sim_goT hn ha h0 o
        obtain ⟨y1, y2⟩ := sim_wkL (f := f) z n (Nat.le_refl n)
        exact ⟨y1, a2, ha2, y2⟩
      · rw [if_neg o, if_neg (fun q => o (hok.mpr q))]
        exact ⟨rfl, a, by omega, h0⟩
theorem i32_le31 (b : Int32) : b < 32 ↔ b ≤ 31 := by
  rw [Int32.lt_iff_toInt_lt, Int32.le_iff_toInt_le]
  have h1 : (32 : Int32).toInt = 32 := rfl
  have h2 : (31 : Int32).toInt = 31 := rfl
  omega
theorem sim_bi {n a : Nat} {k : Int32} {σ : CS} {μ : MS} {i : Nat} {b on : Int32} (bc : ∀ x, bcF x = mBiL x 32) (h : Sim n k a σ μ) (hi : i < n) : (biF σ i b on).1 = (mBiF μ (i + 1) b on).1 ∧ Sim n k a (biF σ i b on).2 (mBiF μ (i + 1) b on).2 := by
  have h0 := sim_c0 h
  obtain ⟨h1, h2, h3, h4⟩ := h0.1 i hi
  unfold biF mBiF mBiS
  dsimp only
  generalize mC0 μ = ν at h0 h1 h4 ⊢
  have z : ∀ w : Int32, Sim n k a (setN σ i ((σ.1 i).1, (σ.1 i).2.1, (σ.1 i).2.2.1, (σ.1 i).2.2.2.1, (σ.1 i).2.2.2.2.1, (σ.1 i).2.2.2.2.2.1, (σ.1 i).2.2.2.2.2.2.1, w)) (setM ν (i + 1) ((ν.1 (i + 1)).1, (ν.1 (i + 1)).2.1, (ν.1 (i + 1)).2.2.1, (ν.1 (i + 1)).2.2.2.1, w, (ν.1 (i + 1)).2.2.2.2.2.1, (ν.1 (i + 1)).2.2.2.2.2.2.1, (ν.1 (i + 1)).2.2.2.2.2.2.2.1, (ν.1 (i + 1)).2.2.2.2.2.2.2.2.1, (ν.1 (i + 1)).2.2.2.2.2.2.2.2.2)) := by
    intro w
    obtain ⟨hN, hB, hA, ht, hm, hc⟩ := h0
    exact ⟨hN.up ⟨⟨h1.1, h1.2.1, h1.2.2.1, h1.2.2.2.1, rfl⟩, h2, h3, h4⟩, hB, hA.up Iff.rfl, ht, hm, hc⟩
  rw [← h1.2.2.2.2]
  by_cases c1 : b < 0
  · rw [if_pos c1, if_pos c1]
    exact ⟨rfl, h0⟩
  · rw [if_neg c1, if_neg c1]
    by_cases c2 : b < 32
    · rw [if_pos c2, if_pos ((i32_le31 b).mp c2)]
      by_cases c3 : on = 0
      · rw [if_pos c3, if_pos c3]
        have y := z ((σ.1 i).2.2.2.2.2.2.2 &&& ((1 <<< (b &&& 31)) ^^^ (-1)))
        exact ⟨by rw [bc, (y.1 i hi).1.2.2.2.2], y⟩
      · rw [if_neg c3, if_neg c3]
        have y := z ((σ.1 i).2.2.2.2.2.2.2 ||| (1 <<< (b &&& 31)))
        exact ⟨by rw [bc, (y.1 i hi).1.2.2.2.2], y⟩
    · rw [if_neg c2, if_neg (fun q => c2 ((i32_le31 b).mpr q))]
      exact ⟨rfl, h0⟩
theorem i64_11 (x : Int64) : x > 10 ↔ 11 ≤ x := by
  rw [gt_iff_lt, Int64.lt_iff_toInt_lt, Int64.le_iff_toInt_le]
  have h1 : (10 : Int64).toInt = 10 := rfl
  have h2 : (11 : Int64).toInt = 11 := rfl
  omega
theorem lN_1000 {a : Nat} (ha : a < 2 ^ 31) : lN a - (-1000) > 10 := by
  rw [show lN a - (-1000) = lN a + lN 1000 from by rw [Int64.sub_eq_add_neg]; rfl, lN_add, show (10 : Int64) = lN 10 from rfl]
  exact (pk_lLT (by omega) (by omega)).mpr (by omega)
theorem sim_nd {n a : Nat} {k : Int32} {σ : CS} {μ : MS} {i : Nat} (hn : n ≤ 64) (ha : a < 2 ^ 31) (h : Sim n k a σ μ) (hi : i < n) : ndC n σ i ↔ ndE μ (i + 1) 8 0 := by
  obtain ⟨h1, -⟩ := h.1 i hi
  obtain ⟨hN, hB, hA, ht, hm, hc⟩ := h
  have hib : i / 8 < nbs n := nbs_of hi
  have hnb : nbs n ≤ 8 := by unfold nbs; omega
  have hbus : (i + 1 + 7) / 8 = i / 8 + 1 := by omega
  constructor
  · rintro ⟨b, hb, hg, q, hq, t1, t2⟩
    refine Or.inl ⟨b, by omega, q, hq, ?_⟩
    have t3 : tbS (μ.1 (i + 1)).2.2.2.2.1 q := by rw [← h1.2.2.2.2]; exact (tb_eq _ hq).mp t1
    rcases hB.2 b q (by omega) hq with ⟨y1, y2⟩ | ⟨y1, y2, y3⟩
    · rw [y2 hb, ht] at t2
      exact absurd (lN_1000 ha) t2
    · refine ⟨by rw [hbus]; exact (hB.1 b (i / 8) hb hib).mp hg, t3, y1, fun y4 => t2 ?_⟩
      rw [y3, ht, ← hm]
      exact (i64_11 _).mpr y4
  · rintro (⟨b, hb, q, hq, y1, y2, y3, y4⟩ | ⟨q, hq, _⟩)
    · rcases hB.2 b q hb hq with ⟨z1, z2⟩ | ⟨z1, z2, z3⟩
      · exact absurd z1 y3
      · rw [hbus] at y1
        refine ⟨b, z2, (hB.1 b (i / 8) z2 hib).mpr y1, q, hq, (tb_eq _ hq).mpr (by rw [h1.2.2.2.2]; exact y2), fun z4 => y4 ?_⟩
        rw [z3, ht, ← hm] at z4
        exact (i64_11 _).mp z4
    · omega
theorem i64_199 (x : Int64) : x < 200 ↔ x ≤ 199 := by
  rw [Int64.lt_iff_toInt_lt, Int64.le_iff_toInt_le]
  have h1 : (200 : Int64).toInt = 200 := rfl
  have h2 : (199 : Int64).toInt = 199 := rfl
  omega
theorem i32_sub0 (x y : Int32) : x - y = 0 ↔ y = x := by
  constructor
  · intro h
    have := congrArg (fun z => z + y) h
    simp only [Int32.sub_add_cancel, Int32.zero_add] at this
    exact this.symm
  · intro h
    subst h
    exact Int32.sub_self y
theorem i32_subs (x y : Int32) : x - y + (-1) = x - (y + 1) := by
  apply Int32.toBitVec_inj.mp
  rw [Int32.toBitVec_add, Int32.toBitVec_sub, Int32.toBitVec_sub, Int32.toBitVec_add]
  show x.toBitVec - y.toBitVec + (-1#32) = x.toBitVec - (y.toBitVec + 1#32)
  bv_omega
theorem sim_nv {n a : Nat} {k : Int32} {σ : CS} {μ : MS} {x : Int32} (h : Sim n k a σ μ) : ∀ (f j : Nat) (at_ : Int32), j + f ≤ n → nvT σ f j (x - at_) = mNvT μ x f j at_ := by
  intro f
  induction f with
  | zero => intro j at_ _; rfl
  | succ f ih =>
    intro j at_ hj
    obtain ⟨h1, h2, h3, h4⟩ := h.1 j (by omega)
    rw [nvT, mNvT, ← h1.1]
    by_cases c1 : (σ.1 j).1 = 3
    · rw [if_pos c1, if_pos c1]
      have e : σ.2.2.1 - (σ.1 j).2.1 = μ.2.2.2.2.1 - (μ.1 (j + 1)).2.2.2.2.2.1 := by rw [(h4 (by rw [c1]; decide)).1, h.2.2.2.1, h.2.2.2.2.1]
      rw [← e]
      by_cases c2 : σ.2.2.1 - (σ.1 j).2.1 < 200
      · rw [if_pos c2, if_pos ((i64_199 _).mp c2)]
        exact ih (j + 1) at_ (by omega)
      · rw [if_neg c2, if_neg (fun q => c2 ((i64_199 _).mpr q))]
        by_cases c3 : at_ = x
        · rw [if_pos c3, if_pos ((i32_sub0 x at_).mpr c3)]
        · rw [if_neg c3, if_neg (fun q => c3 ((i32_sub0 x at_).mp q)), i32_subs]
          exact ih (j + 1) (at_ + 1) (by omega)
    · rw [if_neg c1, if_neg c1]
      exact ih (j + 1) at_ (by omega)
theorem mLi_n (σ : MS) (v : Nat) (o : Int32) : (mLiS σ v o) = (va_up σ.1 v (0, 0, (σ.1 v).2.2.1, o, (σ.1 v).2.2.2.2), σ.2) := by
  unfold mLiS setM
  dsimp only
  simp only [va_up_up, va_up_self]
theorem sim_li {n a : Nat} {k : Int32} {σ : CS} {μ : MS} {i : Nat} {t : Int64} (hn : n ≤ 64) (ha : a < 2 ^ 30) (h : Sim n k a σ μ) (hi : i < n) : (liF n σ i t).1 = (mLiF n μ (i + 1) t).1 ∧ ∃ k2 a2, a2 ≤ a + 1000 ∧ Sim n k2 a2 (liF n σ i t).2 (mLiF n μ (i + 1) t).2 := by
  have h0 := sim_c0 h
  unfold liF mLiF
  dsimp only
  generalize mC0 μ = ν at h0 ⊢
  have hok : okT σ.2.2.1 t ↔ okT ν.2.2.2.2.1 t := by rw [h0.2.2.2.1, h0.2.2.2.2.1]
  by_cases o : okT σ.2.2.1 t
  · rw [if_pos o, if_pos (hok.mp o)]
    obtain ⟨a2, ha1, ha2, z⟩ := sim_goT hn ha h0 o
    generalize goT n σ t = σ1 at z ⊢
    generalize mGoT n ν t = ν1 at z ⊢
    obtain ⟨hN, hB, hA, ht, hm, hc⟩ := z
    obtain ⟨h1, h2, h3, h4⟩ := hN i hi
    rw [← h1.2.2.2.1, mLi_n, mLi_n]
    by_cases c : (σ1.1 i).2.2.2.2.2.2.1 = 0
    · rw [if_pos c, if_pos c]
      refine ⟨rfl, k + 1, a2, ha2, ?_⟩
      dsimp only
      have e1 : ∀ σ2 : CS, (cmT σ2 i 0).1 = va_up σ2.1 i (0, σ2.2.2.1, (σ2.1 i).2.2) := fun σ2 => cmT_n σ2 i 0
      have A1 : SA n (setN (setN σ1 i ((σ1.1 i).1, (σ1.1 i).2.1, (σ1.1 i).2.2.1, (σ1.1 i).2.2.2.1, (σ1.1 i).2.2.2.2.1, (σ1.1 i).2.2.2.2.2.1, 1, (σ1.1 i).2.2.2.2.2.2.2)) i ((σ1.1 i).1, (σ1.1 i).2.1, (σ1.1 i).2.2.1, (σ1.1 i).2.2.2.1, 0, (σ1.1 i).2.2.2.2.2.1, 1, (σ1.1 i).2.2.2.2.2.2.2)).1 σ1.2.1 := by
        unfold setN
        dsimp only
        rw [va_up_up]
        exact hA.up Iff.rfl
      have E : setN (setN σ1 i ((σ1.1 i).1, (σ1.1 i).2.1, (σ1.1 i).2.2.1, (σ1.1 i).2.2.2.1, (σ1.1 i).2.2.2.2.1, (σ1.1 i).2.2.2.2.2.1, 1, (σ1.1 i).2.2.2.2.2.2.2)) i (((setN σ1 i ((σ1.1 i).1, (σ1.1 i).2.1, (σ1.1 i).2.2.1, (σ1.1 i).2.2.2.1, (σ1.1 i).2.2.2.2.1, (σ1.1 i).2.2.2.2.2.1, 1, (σ1.1 i).2.2.2.2.2.2.2)).1 i).1, ((setN σ1 i ((σ1.1 i).1, (σ1.1 i).2.1, (σ1.1 i).2.2.1, (σ1.1 i).2.2.2.1, (σ1.1 i).2.2.2.2.1, (σ1.1 i).2.2.2.2.2.1, 1, (σ1.1 i).2.2.2.2.2.2.2)).1 i).2.1, ((setN σ1 i ((σ1.1 i).1, (σ1.1 i).2.1, (σ1.1 i).2.2.1, (σ1.1 i).2.2.2.1, (σ1.1 i).2.2.2.2.1, (σ1.1 i).2.2.2.2.2.1, 1, (σ1.1 i).2.2.2.2.2.2.2)).1 i).2.2.1, ((setN σ1 i ((σ1.1 i).1, (σ1.1 i).2.1, (σ1.1 i).2.2.1, (σ1.1 i).2.2.2.1, (σ1.1 i).2.2.2.2.1, (σ1.1 i).2.2.2.2.2.1, 1, (σ1.1 i).2.2.2.2.2.2.2)).1 i).2.2.2.1, 0, ((setN σ1 i ((σ1.1 i).1, (σ1.1 i).2.1, (σ1.1 i).2.2.1, (σ1.1 i).2.2.2.1, (σ1.1 i).2.2.2.2.1, (σ1.1 i).2.2.2.2.2.1, 1, (σ1.1 i).2.2.2.2.2.2.2)).1 i).2.2.2.2.2.1, ((setN σ1 i ((σ1.1 i).1, (σ1.1 i).2.1, (σ1.1 i).2.2.1, (σ1.1 i).2.2.2.1, (σ1.1 i).2.2.2.2.1, (σ1.1 i).2.2.2.2.2.1, 1, (σ1.1 i).2.2.2.2.2.2.2)).1 i).2.2.2.2.2.2.1, ((setN σ1 i ((σ1.1 i).1, (σ1.1 i).2.1, (σ1.1 i).2.2.1, (σ1.1 i).2.2.2.1, (σ1.1 i).2.2.2.2.1, (σ1.1 i).2.2.2.2.2.1, 1, (σ1.1 i).2.2.2.2.2.2.2)).1 i).2.2.2.2.2.2.2) = (va_up σ1.1 i ((σ1.1 i).1, (σ1.1 i).2.1, (σ1.1 i).2.2.1, (σ1.1 i).2.2.2.1, 0, (σ1.1 i).2.2.2.2.2.1, 1, (σ1.1 i).2.2.2.2.2.2.2), σ1.2) := by
        unfold setN
        dsimp only
        rw [va_up_up, va_up_self]
      rw [E]
      have A2 : SA n (va_up σ1.1 i ((σ1.1 i).1, (σ1.1 i).2.1, (σ1.1 i).2.2.1, (σ1.1 i).2.2.2.1, 0, (σ1.1 i).2.2.2.2.2.1, 1, (σ1.1 i).2.2.2.2.2.2.2)) σ1.2.1 := hA.up Iff.rfl
      generalize hσ2 : ((va_up σ1.1 i ((σ1.1 i).1, (σ1.1 i).2.1, (σ1.1 i).2.2.1, (σ1.1 i).2.2.2.1, 0, (σ1.1 i).2.2.2.2.2.1, 1, (σ1.1 i).2.2.2.2.2.2.2), σ1.2) : CS) = σ2
      have e2 : σ2.1 = va_up σ1.1 i ((σ1.1 i).1, (σ1.1 i).2.1, (σ1.1 i).2.2.1, (σ1.1 i).2.2.2.1, 0, (σ1.1 i).2.2.2.2.2.1, 1, (σ1.1 i).2.2.2.2.2.2.2) := by rw [← hσ2]
      have e3 : σ2.2 = σ1.2 := by rw [← hσ2]
      refine ⟨?_, SB_cm (by rw [e3]; exact hB), SA_cm hi (by rw [e2, e3]; exact A2), by rw [now_cmT, e3]; exact ht, hm, by rw [cmT_ch, e3, hc, Int32.add_assoc]⟩
      rw [cmT_n, e2, va_up_up, va_up_self]
      exact hN.up ⟨⟨rfl, rfl, h1.2.2.1, rfl, h1.2.2.2.2⟩, Or.inl rfl, fun _ => ⟨rfl, rfl⟩, fun z => absurd rfl z⟩
    · rw [if_neg c, if_neg c]
      obtain ⟨c1, c2⟩ := h3 c
      refine ⟨rfl, k, a2, ha2, ?_⟩
      exact ⟨hN.up ⟨⟨c1, c2, h1.2.2.1, rfl, h1.2.2.2.2⟩, Or.inl c1, fun z => absurd rfl z, fun z => absurd c1 z⟩, hB, hA.up Iff.rfl, ht, hm, hc⟩
  · rw [if_neg o, if_neg (fun q => o (hok.mpr q))]
    exact ⟨rfl, k, a, by omega, h0⟩
