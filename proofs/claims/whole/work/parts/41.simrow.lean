/-! a row, on both sides -/
theorem sim_hd {n a : Nat} {k : Int32} {σ : CS} {μ : MS} {i : Nat} (h : Sim n k a σ μ) (hi : i < n) : Sim n k a (setN σ i ((σ.1 i).1, (σ.1 i).2.1, σ.2.2.1, (σ.1 i).2.2.2.1, (σ.1 i).2.2.2.2.1, (σ.1 i).2.2.2.2.2.1, (σ.1 i).2.2.2.2.2.2.1, (σ.1 i).2.2.2.2.2.2.2)) (setM μ (i + 1) ((μ.1 (i + 1)).1, (μ.1 (i + 1)).2.1, (μ.1 (i + 1)).2.2.1, (μ.1 (i + 1)).2.2.2.1, (μ.1 (i + 1)).2.2.2.2.1, (μ.1 (i + 1)).2.2.2.2.2.1, μ.2.2.2.2.1, (μ.1 (i + 1)).2.2.2.2.2.2.2.1, (μ.1 (i + 1)).2.2.2.2.2.2.2.2.1, (μ.1 (i + 1)).2.2.2.2.2.2.2.2.2)) := by
  obtain ⟨hN, hB, hA, ht, hm, hc⟩ := h
  obtain ⟨h1, h2, h3, h4⟩ := hN i hi
  exact ⟨hN.up ⟨h1, h2, h3, fun z => by obtain ⟨e1, e2, e3⟩ := h4 z; exact ⟨e1, ht.trans hm.symm, e3⟩⟩, hB, hA.up Iff.rfl, ht, hm, hc⟩
/-- what the reference does with a node that hears -/
def hrM (μ : MS) (v : Nat) : MS :=
  let s1 : MS := setM μ v ((μ.1 v).1, (μ.1 v).2.1, (μ.1 v).2.2.1, (μ.1 v).2.2.2.1, (μ.1 v).2.2.2.2.1, (μ.1 v).2.2.2.2.2.1, μ.2.2.2.2.1, (μ.1 v).2.2.2.2.2.2.2.1, (μ.1 v).2.2.2.2.2.2.2.2.1, (μ.1 v).2.2.2.2.2.2.2.2.2)
  if (s1.1 v).1 = 1 then mWak s1 v else s1
theorem sim_hr {n a : Nat} {k : Int32} {σ : CS} {μ : MS} {i : Nat} (h : Sim n k a σ μ) (hi : i < n) (hs : ¬ (σ.1 i).1 = 0) : Sim n k a (hrS σ i) (hrM μ (i + 1)) := by
  have z := sim_hd h hi
  obtain ⟨h1, h2, h3, h4⟩ := h.1 i hi
  unfold hrS hrM
  dsimp only
  have e1 : ((setN σ i ((σ.1 i).1, (σ.1 i).2.1, σ.2.2.1, (σ.1 i).2.2.2.1, (σ.1 i).2.2.2.2.1, (σ.1 i).2.2.2.2.2.1, (σ.1 i).2.2.2.2.2.2.1, (σ.1 i).2.2.2.2.2.2.2)).1 i).1 = (σ.1 i).1 := by simp [setN, va_up]
  have e2 : ((setM μ (i + 1) ((μ.1 (i + 1)).1, (μ.1 (i + 1)).2.1, (μ.1 (i + 1)).2.2.1, (μ.1 (i + 1)).2.2.2.1, (μ.1 (i + 1)).2.2.2.2.1, (μ.1 (i + 1)).2.2.2.2.2.1, μ.2.2.2.2.1, (μ.1 (i + 1)).2.2.2.2.2.2.2.1, (μ.1 (i + 1)).2.2.2.2.2.2.2.2.1, (μ.1 (i + 1)).2.2.2.2.2.2.2.2.2)).1 (i + 1)).1 = (σ.1 i).1 := by simp [setM, va_up, h1.1]
  have e3 : ((setN σ i ((σ.1 i).1, (σ.1 i).2.1, σ.2.2.1, (σ.1 i).2.2.2.1, (σ.1 i).2.2.2.2.1, (σ.1 i).2.2.2.2.2.1, (σ.1 i).2.2.2.2.2.2.1, (σ.1 i).2.2.2.2.2.2.2)).1 i).2.2.2.2.2.2.1 = (σ.1 i).2.2.2.2.2.2.1 := by simp [setN, va_up]
  rw [e1, e2]
  by_cases c : (σ.1 i).1 = 1
  · rw [if_pos c, if_pos c]
    refine sim_wk z hi ?_
    rw [e3]
    apply Decidable.byContradiction
    intro y
    exact hs (h3 y).1
  · rw [if_neg c, if_neg c]
    exact z
theorem mRwA_far {μ : MS} {v k : Nat} (hk : k < 2 ^ 20) (hv : v < 2 ^ 20) (h : ¬ (k + 1 + 7) / 8 = (v + 7) / 8) : mRwA μ v (k + 1) = mRwA μ v k := by
  rw [mRwA, if_neg (fun z => h ((nI_eq (by omega) (by omega)).mp z))]
theorem mRwA_own {μ : MS} {v k : Nat} (h : k + 1 = v) : mRwA μ v (k + 1) = mRwA μ v k := by
  subst h
  rw [mRwA]
  split
  · rw [if_pos rfl]
  · rfl
theorem mRwA_out {μ : MS} {v k : Nat} (h : ¬ ((mRwA μ v k).1.1 (k + 1)).2.2.2.1 = 0 ∨ ((mRwA μ v k).1.1 (k + 1)).1 = 0) : mRwA μ v (k + 1) = mRwA μ v k := by
  rw [mRwA]
  repeat' split
  all_goals first | rfl | (exfalso; rcases h with h | h <;> contradiction)
theorem mRwA_hr {μ : MS} {v k : Nat} (hk : k < 2 ^ 20) (hv : v < 2 ^ 20) (h : (k + 1 + 7) / 8 = (v + 7) / 8) (hn : ¬ k + 1 = v) (ho : ((mRwA μ v k).1.1 (k + 1)).2.2.2.1 = 0) (hs : ¬ ((mRwA μ v k).1.1 (k + 1)).1 = 0) : mRwA μ v (k + 1) = (hrM (mRwA μ v k).1 (k + 1), (mRwA μ v k).2 + 1) := by
  rw [mRwA, if_pos (by rw [h]), if_neg (fun z => hn ((nI_eq (by omega) (by omega)).mp z)), if_pos ho, if_neg hs]
  unfold hrM
  dsimp only
  split <;> rfl
theorem mRwA_lo {μ : MS} {i : Nat} (hi : i < 64) : ∀ j, j ≤ 8 * (i / 8) → mRwA μ (i + 1) j = mRwA μ (i + 1) 0 := by
  intro j
  induction j with
  | zero => intro _; rfl
  | succ j ih =>
    intro h
    rw [mRwA_far (by omega) (by omega) (by omega)]
    exact ih (by omega)
theorem mRwA_hi {μ : MS} {n i : Nat} (hn : n ≤ 64) (hi : i < n) : ∀ j, 8 * (i / 8) + mbs n (i / 8) ≤ j → j ≤ n → mRwA μ (i + 1) j = mRwA μ (i + 1) (8 * (i / 8) + mbs n (i / 8)) := by
  intro j
  induction j with
  | zero => intro h _; rw [show 8 * (i / 8) + mbs n (i / 8) = 0 by omega]
  | succ j ih =>
    intro h hj
    rcases Nat.lt_or_ge j (8 * (i / 8) + mbs n (i / 8)) with z | z
    · rw [show 8 * (i / 8) + mbs n (i / 8) = j + 1 by omega]
    · rw [mRwA_far (by omega) (by omega) (by unfold mbs at z; omega)]
      exact ih z (by omega)
theorem sim_rwL {n a : Nat} {κ : Int32} {σ : CS} {μ : MS} {i : Nat} (hn : n ≤ 64) (h : Sim n κ a σ μ) (hi : i < n) : ∀ k, k ≤ mbs n (i / 8) → Sim n κ a (rwL σ i k).1 (mRwA μ (i + 1) (8 * (i / 8) + k)).1 ∧ (rwL σ i k).2 = (mRwA μ (i + 1) (8 * (i / 8) + k)).2 := by
  intro k
  induction k with
  | zero =>
    intro _
    rw [show 8 * (i / 8) + 0 = 8 * (i / 8) from rfl, mRwA_lo (μ := μ) (i := i) (by omega) (8 * (i / 8)) (Nat.le_refl _)]
    exact ⟨sim_hd h hi, rfl⟩
  | succ k ih =>
    intro hk
    obtain ⟨hs, hc⟩ := ih (by omega)
    have ho : 8 * (i / 8) + k < n := mb_lt (by omega)
    have hk8 : k < 8 := by unfold mbs at hk; omega
    obtain ⟨h1, h2, h3, h4⟩ := hs.1 _ ho
    rw [← Nat.add_assoc]
    by_cases e1 : 8 * (i / 8) + k = i
    · rw [rwL_1 e1, mRwA_own (by omega)]
      exact ⟨hs, hc⟩
    · by_cases e2 : ((rwL σ i k).1.1 (8 * (i / 8) + k)).1 = 0
      · rw [rwL_2 e1 e2, mRwA_out (Or.inr (by rw [← h1.1]; exact e2))]
        exact ⟨hs, hc⟩
      · have e3 : ((mRwA μ (i + 1) (8 * (i / 8) + k)).1.1 (8 * (i / 8) + k + 1)).2.2.2.1 = 0 := by
          rw [← h1.2.2.2.1]
          apply Decidable.byContradiction
          intro y
          exact e2 (h3 y).1
        rw [rwL_3 e1 e2, mRwA_hr (by omega) (by omega) (by omega) (by omega) e3 (by rw [← h1.1]; exact e2)]
        exact ⟨sim_hr hs ho e2, by rw [hc]⟩
/-! the bits that are called -/
theorem mRwB_k (μ : MS) (v : Nat) (j : Nat) : (mRwB μ v j).1 = μ.1 ∧ (mRwB μ v j).2.1 = μ.2.1 ∧ (mRwB μ v j).2.2.2.2 = μ.2.2.2.2 := by
  induction j with
  | zero => exact ⟨rfl, rfl, rfl⟩
  | succ j ih =>
    unfold mRwB
    dsimp only
    repeat' split
    all_goals exact ih
theorem mRwB_at (μ : MS) (v : Nat) (j : Nat) (hj : j ≤ 32) : ∀ b q, q < 32 → ((b = (v + 7) / 8 ∧ mWn (μ.1 v) ∧ q < j ∧ tbS (μ.1 v).2.2.2.2.1 q) → (mRwB μ v j).2.2.1 (32 * b + q) = μ.2.2.2.2.1 ∧ (mRwB μ v j).2.2.2.1 (32 * b + q) = 1) ∧ (¬ (b = (v + 7) / 8 ∧ mWn (μ.1 v) ∧ q < j ∧ tbS (μ.1 v).2.2.2.2.1 q) → (mRwB μ v j).2.2.1 (32 * b + q) = μ.2.2.1 (32 * b + q) ∧ (mRwB μ v j).2.2.2.1 (32 * b + q) = μ.2.2.2.1 (32 * b + q)) := by
  induction j with
  | zero => intro b q hq; exact ⟨fun z => absurd z.2.2.1 (by omega), fun _ => ⟨rfl, rfl⟩⟩
  | succ j ih =>
    intro b q hq
    have z := ih (by omega) b q hq
    obtain ⟨k1, k2, k3⟩ := mRwB_k μ v j
    have hnow : (mRwB μ v j).2.2.2.2.1 = μ.2.2.2.2.1 := by rw [k3]
    rw [mRwB]
    rw [k1]
    by_cases hw : mWn (μ.1 v)
    · rw [if_pos hw]
      by_cases ht : tbS (μ.1 v).2.2.2.2.1 j
      · rw [if_pos ht]
        dsimp only
        by_cases e : 32 * b + q = 32 * ((v + 7) / 8) + j
        · have e1 : b = (v + 7) / 8 := by omega
          have e2 : q = j := by omega
          refine ⟨fun _ => ?_, fun y => absurd ⟨e1, hw, by omega, by rw [e2]; exact ht⟩ y⟩
          rw [e]
          simp [vp_updL, upd, hnow]
        · have u1 : ∀ x, vp_updL (mRwB μ v j).2.2.1 (32 * ((v + 7) / 8) + j) x (32 * b + q) = (mRwB μ v j).2.2.1 (32 * b + q) := fun x => pk_uLn e
          have u2 : ∀ x, upd (mRwB μ v j).2.2.2.1 (32 * ((v + 7) / 8) + j) x (32 * b + q) = (mRwB μ v j).2.2.2.1 (32 * b + q) := fun x => pk_un e
          rw [u1, u2]
          refine ⟨fun y => z.1 ⟨y.1, y.2.1, ?_, y.2.2.2⟩, fun y => z.2 (fun x => y ⟨x.1, x.2.1, by omega, x.2.2.2⟩)⟩
          have := y.2.2.1
          have := y.1
          omega
      · rw [if_neg ht]
        refine ⟨fun y => z.1 ⟨y.1, y.2.1, ?_, y.2.2.2⟩, fun y => z.2 (fun x => y ⟨x.1, x.2.1, by omega, x.2.2.2⟩)⟩
        have h1 := y.2.2.1
        rcases Nat.lt_or_ge q j with u | u
        · exact u
        · have : q = j := by omega
          subst this
          exact absurd y.2.2.2 ht
    · rw [if_neg hw]
      exact ⟨fun y => absurd y.2.1 hw, fun _ => z.2 (fun x => hw x.2.1)⟩
theorem cbS_b (σ : CS) (b : Nat) (x : Int32) (c : Nat) : (cbS σ b x 32).2.1 c = ((σ.2.1 c).1, (σ.2.1 c).2.1, if c = b then clU (σ.2.1 c).2.2 x σ.2.2.1 32 else (σ.2.1 c).2.2) := by
  unfold cbS setB va_up
  by_cases h : c = b
  · subst h; simp
  · simp [h]
theorem sim_row {n a : Nat} {k : Int32} {σ : CS} {μ : MS} {i : Nat} (hn : n ≤ 64) (h : Sim n k a σ μ) (hi : i < n) : Sim n k a (rwS n σ i) (mRwS n μ (i + 1)) ∧ rwR n σ i = mRwR n μ (i + 1) := by
  have hmb : 8 * (i / 8) + mbs n (i / 8) ≤ n := by unfold mbs; omega
  obtain ⟨hs, hc⟩ := sim_rwL hn h hi (mbs n (i / 8)) (Nat.le_refl _)
  rw [← mRwA_hi hn hi n hmb (Nat.le_refl n)] at hs hc
  refine ⟨?_, hc⟩
  unfold rwS mRwS
  generalize (rwL σ i (mbs n (i / 8))).1 = τ at hs ⊢
  generalize (mRwA μ (i + 1) n).1 = ν at hs ⊢
  obtain ⟨hN, hB, hA, ht, hm, hch⟩ := hs
  obtain ⟨h1, h2, h3, h4⟩ := hN i hi
  obtain ⟨k1, k2, k3⟩ := mRwB_k ν (i + 1) 32
  have hw : wnt (τ.1 i) ↔ mWn (ν.1 (i + 1)) := by
    unfold wnt mWn
    rw [h1.2.1, h1.2.2.1]
  have hbus : (i + 1 + 7) / 8 = i / 8 + 1 := by omega
  have hib : i / 8 < nbs n := nbs_of hi
  have parts : ∀ {ρ : CS}, ρ.1 = τ.1 → ρ.2.2 = τ.2.2 → SA n ρ.1 ρ.2.1 → SB n ρ.2.1 ν.2.1 (mRwB ν (i + 1) 32).2.2.1 (mRwB ν (i + 1) 32).2.2.2.1 → Sim n k a ρ (mRwB ν (i + 1) 32) := by
    intro ρ e1 e2 e3 e4
    refine ⟨by rw [e1, k1]; exact hN, by rw [k2]; exact e4, e3, by rw [e2]; exact ht, by rw [k3]; exact hm, by rw [e2, k3]; exact hch⟩
  by_cases w : wnt (τ.1 i)
  · rw [if_pos w]
    refine parts rfl rfl (fun b hb => by rw [cbS_b]; exact hA b hb) ⟨fun b c hb hc => by rw [cbS_b, cbS_b]; exact hB.1 b c hb hc, fun b q hb hq => ?_⟩
    have z := mRwB_at ν (i + 1) 32 (Nat.le_refl _) (b + 1) q hq
    rw [cbS_b]
    by_cases e : b = i / 8
    · by_cases t : tbU (τ.1 i).2.2.2.2.2.2.2 q
      · have t2 : tbS (ν.1 (i + 1)).2.2.2.2.1 q := by rw [← h1.2.2.2.2]; exact (tb_eq _ hq).mp t
        obtain ⟨y1, y2⟩ := z.1 ⟨by rw [hbus, e], hw.mp w, hq, t2⟩
        refine Or.inr ⟨by rw [y2]; decide, by rw [e]; exact hib, ?_⟩
        rw [y1]
        simp only [if_pos e]
        unfold clU
        rw [if_pos ⟨hq, t⟩]
        exact ht.trans hm.symm
      · have t2 : ¬ tbS (ν.1 (i + 1)).2.2.2.2.1 q := by rw [← h1.2.2.2.2]; exact fun y => t ((tb_eq _ hq).mpr y)
        obtain ⟨y1, y2⟩ := z.2 (fun y => t2 y.2.2.2)
        rw [y1, y2]
        simp only [if_pos e, clU, t, and_false, if_false]
        exact hB.2 b q hb hq
    · obtain ⟨y1, y2⟩ := z.2 (fun y => e (by have := y.1; omega))
      rw [y1, y2]
      simp only [if_neg e]
      exact hB.2 b q hb hq
  · rw [if_neg w]
    refine parts rfl rfl hA ⟨hB.1, fun b q hb hq => ?_⟩
    obtain ⟨y1, y2⟩ := (mRwB_at ν (i + 1) 32 (Nat.le_refl _) (b + 1) q hq).2 (fun y => w (hw.mpr y.2.1))
    rw [y1, y2]
    exact hB.2 b q hb hq
