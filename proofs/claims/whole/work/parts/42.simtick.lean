/-! a tick, on both sides -/
theorem sim_still {n a : Nat} {k : Int32} {σ : CS} {μ : MS} {i : Nat} (hn : n ≤ 64) (h : Sim n k a σ μ) (hi : i < n) : stl n σ (σ.2.1 (i / 8)).1 ↔ stlM n μ (i + 1) := by
  obtain ⟨hN, hB, hA, ht, hm, hc⟩ := h
  have hib : i / 8 < nbs n := nbs_of hi
  have hnm : ∀ w, w < n → ((σ.2.1 (w / 8)).1 = (σ.2.1 (i / 8)).1 ↔ μ.2.1 ((w + 1 + 7) / 8) = μ.2.1 ((i + 1 + 7) / 8)) := by
    intro w hw
    rw [show (w + 1 + 7) / 8 = w / 8 + 1 by omega, show (i + 1 + 7) / 8 = i / 8 + 1 by omega]
    exact hB.1 _ _ (nbs_of hw) hib
  have haw : ∀ b, b < nbs n → ((σ.2.1 b).2.1 ≤ 0 ↔ ∀ j, j < n → j / 8 = b → ¬ awk (σ.1 j).1) := by
    intro b hb
    have c1 : cA σ.1 b n ≤ n := cA_le n
    rw [hA b hb, ← cA_0 n, show (0 : Int32) = nI 0 from rfl, nI_leI (by omega) (by omega)]
    omega
  have hlo : ∀ w, w < n → (loudM μ (w + 1) ↔ awk (σ.1 w).1 ∨ ((σ.1 w).1 = 2 ∧ ¬ 10 ≤ σ.2.2.1 - (σ.1 w).2.2.1)) := by
    intro w hw
    obtain ⟨h1, h2, h3, h4⟩ := hN w hw
    unfold loudM
    rw [← h1.1]
    have e1 : ((σ.1 w).1 > 2) ↔ awk (σ.1 w).1 := by
      rcases h2 with e | e | e | e | e <;> rw [e] <;> decide
    rw [e1]
    constructor
    · rintro (z | ⟨z1, z2⟩)
      · exact Or.inl z
      · obtain ⟨-, e2, -⟩ := h4 (by rw [z1]; decide)
        exact Or.inr ⟨z1, by rw [e2, ht, ← hm]; exact z2⟩
    · rintro (z | ⟨z1, z2⟩)
      · exact Or.inl z
      · obtain ⟨-, e2, -⟩ := h4 (by rw [z1]; decide)
        exact Or.inr ⟨z1, by rw [← e2, hm, ← ht]; exact z2⟩
  constructor
  · intro hs w hw hq
    have hg := (hnm w hw).mpr hq.1
    rcases (hlo w hw).mp hq.2 with z | ⟨z1, z2⟩
    · exact (haw (w / 8) (nbs_of hw)).mp (hs.1 (w / 8) (nbs_of hw) hg) w hw rfl z
    · exact z2 (hs.2 w hw hg z1)
  · intro hs
    refine ⟨fun b hb hg => (haw b hb).mpr (fun j hj hjb hj2 => ?_), fun w hw hg z1 => ?_⟩
    · exact hs j hj ⟨(hnm j hj).mp (by rw [hjb]; exact hg), (hlo j hj).mpr (Or.inl hj2)⟩
    · apply Decidable.byContradiction
      intro z2
      exact hs w hw ⟨(hnm w hw).mp hg, (hlo w hw).mpr (Or.inr ⟨z1, z2⟩)⟩
theorem sim_chS {n a : Nat} {k : Int32} {σ : CS} {μ : MS} {i : Nat} (hn : n ≤ 64) (h : Sim n k a σ μ) (hi : i < n) : Sim n k a (chS n σ i) (mChS n μ (i + 1)) := by
  have hst := sim_still hn h hi
  have hcm := fun x hx ho ho2 => sim_cm (x := x) h hi hx ho ho2
  obtain ⟨h1, h2, h3, h4⟩ := h.1 i hi
  have ht := h.2.2.2.1
  have hm := h.2.2.2.2.1
  have hw : wnt (σ.1 i) ↔ mWn (μ.1 (i + 1)) := by
    unfold wnt mWn
    rw [h1.2.1, h1.2.2.1]
  have hago : ¬ (σ.1 i).1 = 0 → σ.2.2.1 - (σ.1 i).2.1 = μ.2.2.2.2.1 - (μ.1 (i + 1)).2.2.2.2.2.1 := fun z => by rw [(h4 z).1, ht, hm]
  have go : ∀ x : Int32, (x = 0 ∨ x = 1 ∨ x = 2 ∨ x = 3 ∨ x = 4) → ¬ (σ.1 i).1 = 0 → Sim n k a (cmT σ i x) (mBec μ (i + 1) x) := fun x hx z => hcm x hx (Or.inr z) (fun y => absurd (h3 y).1 z)
  have hs := h1.1
  generalize hsv : (σ.1 i).1 = sv at *
  rcases h2 with e | e | e | e | e <;> subst e
  · have e1 : chS n σ i = σ := by unfold chS; rw [hsv]; rfl
    have e2 : mChS n μ (i + 1) = μ := by unfold mChS; rw [← hs]; rfl
    rw [e1, e2]
    exact h
  · have e1 : chS n σ i = if σ.2.2.1 - (σ.1 i).2.1 < 5 then σ else cmT σ i 0 := by unfold chS; rw [hsv]; rfl
    have e2 : mChS n μ (i + 1) = if μ.2.2.2.2.1 - (μ.1 (i + 1)).2.2.2.2.2.1 < 5 then μ else mBec μ (i + 1) 0 := by unfold mChS; rw [← hs]; rfl
    rw [e1, e2, hago (by decide)]
    split
    · exact h
    · exact go 0 (Or.inl rfl) (by decide)
  · have e1 : chS n σ i = if wnt (σ.1 i) then cmT σ i 3 else if stl n σ (σ.2.1 (i / 8)).1 then cmT σ i 1 else σ := by unfold chS; rw [hsv]; rfl
    have e2 : mChS n μ (i + 1) = if mWn (μ.1 (i + 1)) then mBec μ (i + 1) 3 else if stlM n μ (i + 1) then mBec μ (i + 1) 1 else μ := by unfold mChS; rw [← hs]; rfl
    rw [e1, e2]
    by_cases w : wnt (σ.1 i)
    · rw [if_pos w, if_pos (hw.mp w)]
      exact go 3 (by decide) (by decide)
    · rw [if_neg w, if_neg (fun z => w (hw.mpr z))]
      by_cases t : stl n σ (σ.2.1 (i / 8)).1
      · rw [if_pos t, if_pos (hst.mp t)]
        exact go 1 (by decide) (by decide)
      · rw [if_neg t, if_neg (fun z => t (hst.mpr z))]
        exact h
  · have e1 : chS n σ i = if wnt (σ.1 i) then σ else cmT σ i 2 := by unfold chS; rw [hsv]; rfl
    have e2 : mChS n μ (i + 1) = if mWn (μ.1 (i + 1)) then μ else mBec μ (i + 1) 2 := by unfold mChS; rw [← hs]; rfl
    rw [e1, e2]
    by_cases w : wnt (σ.1 i)
    · rw [if_pos w, if_pos (hw.mp w)]
      exact h
    · rw [if_neg w, if_neg (fun z => w (hw.mpr z))]
      exact go 2 (by decide) (by decide)
  · have e1 : chS n σ i = if σ.2.2.1 - (σ.1 i).2.1 < 20 then σ else if wnt (σ.1 i) then cmT σ i 3 else cmT σ i 2 := by unfold chS; rw [hsv]; rfl
    have e2 : mChS n μ (i + 1) = if μ.2.2.2.2.1 - (μ.1 (i + 1)).2.2.2.2.2.1 < 20 then μ else if mWn (μ.1 (i + 1)) then mBec μ (i + 1) 3 else mBec μ (i + 1) 2 := by unfold mChS; rw [← hs]; rfl
    rw [e1, e2, hago (by decide)]
    split
    · exact h
    · by_cases w : wnt (σ.1 i)
      · rw [if_pos w, if_pos (hw.mp w)]
        exact go 3 (by decide) (by decide)
      · rw [if_neg w, if_neg (fun z => w (hw.mpr z))]
        exact go 2 (by decide) (by decide)
theorem sim_chA {n a : Nat} {k : Int32} {σ : CS} {μ : MS} (hn : n ≤ 64) (h : Sim n k a σ μ) : ∀ j, j ≤ n → Sim n k a (chA n σ j) (mChA n μ j) := by
  intro j
  induction j with
  | zero => intro _; exact h
  | succ j ih => intro hj; exact sim_chS hn (ih (by omega)) (by omega)
/-! the reference's marks of what was sent, set behind the row instead of ahead of it -/
theorem va_up_comm {α : Type} (f : Nat → α) {i j : Nat} (x y : α) (h : i ≠ j) : va_up (va_up f i x) j y = va_up (va_up f j y) i x := by
  funext q
  unfold va_up
  by_cases h1 : q = j
  · subst h1
    have : ¬ q = i := fun z => h z.symm
    simp [this]
  · simp [h1]
def mkS (t : Int64) (y : MV) : MV := (y.1, y.2.1, y.2.2.1, y.2.2.2.1, y.2.2.2.2.1, y.2.2.2.2.2.1, y.2.2.2.2.2.2.1, t, 0, y.2.2.2.2.2.2.2.2.2)
def upS (μ : MS) (v : Nat) (t : Int64) : MS := (va_up μ.1 v (mkS t (μ.1 v)), μ.2)
theorem upS_ne {μ : MS} {v w : Nat} {t : Int64} (h : w ≠ v) : (upS μ v t).1 w = μ.1 w := va_up_ne _ _ h
theorem upS_v {μ : MS} {v : Nat} {t : Int64} : (upS μ v t).1 v = mkS t (μ.1 v) := va_up_self _ _ _
theorem upS_setM {μ : MS} {v w : Nat} {t : Int64} {x : MV} (h : w ≠ v) : setM (upS μ v t) w x = upS (setM μ w x) v t := by
  unfold setM upS
  dsimp only
  rw [va_up_comm μ.1 _ x (Ne.symm h), va_up_ne μ.1 x (Ne.symm h)]
theorem mWak_e (σ : MS) (v : Nat) : mWak σ v = (va_up σ.1 v (4, (σ.1 v).2.1, (σ.1 v).2.2.1, (σ.1 v).2.2.2.1, (σ.1 v).2.2.2.2.1, σ.2.2.2.2.1, σ.2.2.2.2.1, (σ.1 v).2.2.2.2.2.2.2.1, 1, σ.2.2.2.2.1), σ.2.1, σ.2.2.1, σ.2.2.2.1, σ.2.2.2.2.1, σ.2.2.2.2.2.1 + 1, σ.2.2.2.2.2.2) := Prod.ext (mWak_n σ v) rfl
theorem upS_wak {μ : MS} {v w : Nat} {t : Int64} (h : w ≠ v) : mWak (upS μ v t) w = upS (mWak μ w) v t := by
  rw [mWak_e, mWak_e, upS_ne h]
  unfold upS
  dsimp only
  rw [va_up_comm μ.1 _ _ (Ne.symm h), va_up_ne μ.1 _ (Ne.symm h)]
theorem upS_hr {μ : MS} {v w : Nat} {t : Int64} (h : w ≠ v) : hrM (upS μ v t) w = upS (hrM μ w) v t := by
  unfold hrM
  rw [upS_ne h]
  dsimp only
  rw [show (upS μ v t).2.2.2.2.1 = μ.2.2.2.2.1 from rfl, upS_setM h, upS_ne h]
  split
  · exact upS_wak h
  · rfl
theorem upS_A {μ : MS} {v : Nat} {t : Int64} (hv : v < 2 ^ 20) : ∀ k, k < 2 ^ 20 → mRwA (upS μ v t) v k = (upS (mRwA μ v k).1 v t, (mRwA μ v k).2) := by
  intro k
  induction k with
  | zero =>
    intro _
    show (setM (upS μ v t) v _, (0 : Int32)) = (upS (setM μ v _) v t, 0)
    rw [upS_v]
    unfold setM upS mkS
    dsimp only
    rw [va_up_up, va_up_up, va_up_self]
  | succ k ih =>
    intro hk
    have e := ih (by omega)
    by_cases e1 : (k + 1 + 7) / 8 = (v + 7) / 8
    · by_cases e2 : k + 1 = v
      · rw [mRwA_own e2, mRwA_own e2]
        exact e
      · have q1 : ((mRwA (upS μ v t) v k).1.1 (k + 1)) = ((mRwA μ v k).1.1 (k + 1)) := by rw [e]; exact upS_ne e2
        by_cases e3 : ¬ ((mRwA μ v k).1.1 (k + 1)).2.2.2.1 = 0 ∨ ((mRwA μ v k).1.1 (k + 1)).1 = 0
        · rw [mRwA_out (by rw [q1]; exact e3), mRwA_out e3]
          exact e
        · have e4 : ((mRwA μ v k).1.1 (k + 1)).2.2.2.1 = 0 := Decidable.byContradiction (fun z => e3 (Or.inl z))
          have e5 : ¬ ((mRwA μ v k).1.1 (k + 1)).1 = 0 := fun z => e3 (Or.inr z)
          rw [mRwA_hr (by omega) hv e1 e2 (by rw [q1]; exact e4) (by rw [q1]; exact e5), mRwA_hr (by omega) hv e1 e2 e4 e5, e]
          dsimp only
          rw [upS_hr e2]
    · rw [mRwA_far (by omega) hv e1, mRwA_far (by omega) hv e1]
      exact e
theorem upS_B {μ : MS} {v : Nat} {t : Int64} (j : Nat) : mRwB (upS μ v t) v j = upS (mRwB μ v j) v t := by
  induction j with
  | zero => rfl
  | succ j ih =>
    rw [mRwB, mRwB, ih, upS_v]
    have e1 : mWn (mkS t ((mRwB μ v j).1 v)) ↔ mWn ((mRwB μ v j).1 v) := Iff.rfl
    by_cases w : mWn ((mRwB μ v j).1 v)
    · rw [if_pos w, if_pos (e1.mpr w)]
      by_cases b : tbS ((mRwB μ v j).1 v).2.2.2.2.1 j
      · rw [if_pos b, if_pos (show tbS (mkS t ((mRwB μ v j).1 v)).2.2.2.2.1 j from b)]
        rfl
      · rw [if_neg b, if_neg (show ¬ tbS (mkS t ((mRwB μ v j).1 v)).2.2.2.2.1 j from b)]
    · rw [if_neg w, if_neg (fun z => w (e1.mp z))]
theorem mSnd_e {n : Nat} (hn : n ≤ 64) {μ : MS} {v : Nat} (hv : v ≤ 64) : mSnd n μ v = upS (mRwS n μ v) v μ.2.2.2.2.1 := by
  have e : mSnd n μ v = mRwS n (upS μ v μ.2.2.2.2.1) v := by
    unfold mSnd upS setM mkS
    dsimp only
    rw [va_up_up, va_up_self]
  rw [e]
  unfold mRwS
  rw [upS_A (by omega) n (by omega)]
  exact upS_B 32
theorem sim_sdS {n a : Nat} {k : Int32} {σ : CS} {μ : MS} {i : Nat} (hn : n ≤ 64) (ha : a < 2 ^ 31) (h : Sim n k a σ μ) (hi : i < n) : Sim n k a (sdS n σ i) (mSdS n μ (i + 1)) := by
  obtain ⟨hr, -⟩ := sim_row hn h hi
  obtain ⟨h1, h2, h3, h4⟩ := h.1 i hi
  have ht := h.2.2.2.1
  have hm := h.2.2.2.2.1
  have haw : awk (σ.1 i).1 ↔ ¬ (μ.1 (i + 1)).1 ≤ 2 := by
    rw [← h1.1]
    rcases h2 with e | e | e | e | e <;> rw [e] <;> decide
  by_cases w : awk (σ.1 i).1
  · have hs0 : ¬ (σ.1 i).1 = 0 := by rcases w with w | w <;> rw [w] <;> decide
    obtain ⟨-, -, z, hz, hnx⟩ := h4 hs0
    have hdue : (σ.2.2.1 < (σ.1 i).2.2.2.1) ↔ (if (μ.1 (i + 1)).2.2.2.2.2.2.2.2.1 = 0 then μ.2.2.2.2.1 - (μ.1 (i + 1)).2.2.2.2.2.2.2.1 < 3 else μ.2.2.2.2.1 ≤ (μ.1 (i + 1)).2.2.2.2.2.2.2.2.2) := by
      rcases hnx with ⟨y1, y2, y3⟩ | ⟨y1, y2, y3⟩
      · rw [if_pos y1, y2, y3, ht, hm, lN_sub hz, show (3 : Int64) = lN 3 from rfl, pk_lLT (by omega) (by omega), pk_lLT (by omega) (by decide)]
        omega
      · rw [if_neg y1, y2, y3, ht, hm, pk_lLT (by omega) (by omega), pk_lLE (by omega) (by omega)]
        omega
    have e1 : sdS n σ i = if ¬ (σ.1 i).2.2.2.2.2.1 = 0 then σ else if σ.2.2.1 < (σ.1 i).2.2.2.1 then σ else (let s1 : CS := rwS n σ i; setN s1 i ((s1.1 i).1, (s1.1 i).2.1, (s1.1 i).2.2.1, s1.2.2.1 + 3, (s1.1 i).2.2.2.2.1, (s1.1 i).2.2.2.2.2.1, (s1.1 i).2.2.2.2.2.2.1, (s1.1 i).2.2.2.2.2.2.2)) := by
      unfold sdS
      rw [if_pos w]
    have w2 := haw.mp w
    have e2 : mSdS n μ (i + 1) = if (if (μ.1 (i + 1)).2.2.2.2.2.2.2.2.1 = 0 then μ.2.2.2.2.1 - (μ.1 (i + 1)).2.2.2.2.2.2.2.1 < 3 else μ.2.2.2.2.1 ≤ (μ.1 (i + 1)).2.2.2.2.2.2.2.2.2) then μ else if (μ.1 (i + 1)).2.2.1 = 0 then mSnd n μ (i + 1) else μ := by
      unfold mSdS
      by_cases c : (μ.1 (i + 1)).2.2.2.2.2.2.2.2.1 = 0
      · simp only [if_pos c, if_neg w2]
      · simp only [if_neg c, if_neg w2]
    rw [e1, e2, ← h1.2.2.1]
    by_cases hp : (σ.1 i).2.2.2.2.2.1 = 0
    · rw [if_neg (fun y => y hp), if_pos hp]
      by_cases hd : σ.2.2.1 < (σ.1 i).2.2.2.1
      · rw [if_pos hd, if_pos (hdue.mp hd)]
        exact h
      · rw [if_neg hd, if_neg (fun y => hd (hdue.mpr y)), mSnd_e hn (by omega)]
        dsimp only
        generalize rwS n σ i = τ at hr ⊢
        generalize mRwS n μ (i + 1) = ν at hr ⊢
        obtain ⟨rN, rB, rA, rt, rm, rc⟩ := hr
        obtain ⟨g1, g2, g3, g4⟩ := rN i hi
        refine ⟨rN.up ⟨g1, g2, g3, fun y => ?_⟩, rB, rA.up Iff.rfl, rt, rm, rc⟩
        obtain ⟨f1, f2, -⟩ := g4 y
        refine ⟨f1, f2, a, Nat.le_refl a, Or.inl ⟨rfl, hm, ?_⟩⟩
        show τ.2.2.1 + 3 = lN (a + 3)
        rw [rt, show (3 : Int64) = lN 3 from rfl, lN_add]
    · rw [if_pos hp, if_neg hp]
      simp only [ite_self]
      exact h
  · have e1 : sdS n σ i = σ := by unfold sdS; rw [if_neg w]
    have w2 : (μ.1 (i + 1)).1 ≤ 2 := Decidable.byContradiction (fun y => w (haw.mpr y))
    have e2 : mSdS n μ (i + 1) = μ := by
      unfold mSdS
      simp only [if_pos w2]
      repeat' split
      all_goals rfl
    rw [e1, e2]
    exact h
theorem sim_sdA {n a : Nat} {k : Int32} {σ : CS} {μ : MS} (hn : n ≤ 64) (ha : a < 2 ^ 31) (h : Sim n k a σ μ) : ∀ j, j ≤ n → Sim n k a (sdA n σ j) (mSdA n μ j) := by
  intro j
  induction j with
  | zero => intro _; exact h
  | succ j ih => intro hj; exact sim_sdS hn ha (ih (by omega)) (by omega)
theorem sim_tk {n a : Nat} {k : Int32} {σ : CS} {μ : MS} (hn : n ≤ 64) (ha : a + 1 < 2 ^ 31) (h : Sim n k a σ μ) : Sim n k (a + 1) (tkS n σ (σ.2.2.1 + 1)) (mTk n μ) := by
  unfold tkS mTk
  refine sim_sdA hn ha (sim_chA hn ?_ n (Nat.le_refl n)) n (Nat.le_refl n)
  obtain ⟨hN, hB, hA, ht, hm, hc⟩ := h
  exact ⟨fun i hi => (hN i hi).mono (by omega), hB, hA, by show σ.2.2.1 + 1 = _; rw [ht, lN_1], by show μ.2.2.2.2.1 + 1 = _; rw [hm, lN_1], hc⟩
theorem sim_slp {n a : Nat} {k : Int32} {σ : CS} {μ : MS} (h : Sim n k a σ μ) : slp n σ ↔ slpM n μ := by
  constructor
  · intro z w hw
    rw [← (h.1 w hw).1.1]
    exact z w hw
  · intro z w hw
    rw [(h.1 w hw).1.1]
    exact z w hw
theorem mTk_slp {n : Nat} {μ : MS} (h : slpM n μ) : mTk n μ = mT1 μ := by
  have c : ∀ j, j ≤ n → mChA n (mT1 μ) j = mT1 μ := by
    intro j
    induction j with
    | zero => intro _; rfl
    | succ j ih =>
      intro hj
      show mChS n (mChA n (mT1 μ) j) (j + 1) = _
      rw [ih (by omega)]
      have e : ((mT1 μ).1 (j + 1)).1 = 0 := h j (by omega)
      unfold mChS
      rw [e]
      rfl
  have d : ∀ j, j ≤ n → mSdA n (mT1 μ) j = mT1 μ := by
    intro j
    induction j with
    | zero => intro _; rfl
    | succ j ih =>
      intro hj
      show mSdS n (mSdA n (mT1 μ) j) (j + 1) = _
      rw [ih (by omega)]
      have e : ((mT1 μ).1 (j + 1)).1 = 0 := h j (by omega)
      have e2 : ((mT1 μ).1 (j + 1)).1 ≤ 2 := by rw [e]; decide
      unfold mSdS
      simp only [if_pos e2]
      repeat' split
      all_goals rfl
  unfold mTk
  rw [c n (Nat.le_refl n), d n (Nat.le_refl n)]
theorem mGo_slp {n : Nat} : ∀ (d a : Nat) (μ : MS), slpM n μ → μ.2.2.2.2.1 = lN a → mGo n d μ = (μ.1, μ.2.1, μ.2.2.1, μ.2.2.2.1, lN (a + d), μ.2.2.2.2.2.1, μ.2.2.2.2.2.2) := by
  intro d
  induction d with
  | zero => intro a μ _ e; show μ = _; rw [Nat.add_zero, ← e]
  | succ d ih =>
    intro a μ h e
    show mGo n d (mTk n μ) = _
    rw [mTk_slp h, ih (a + 1) (mT1 μ) h (by show μ.2.2.2.2.1 + 1 = _; rw [e, lN_1])]
    show _ = (μ.1, μ.2.1, μ.2.2.1, μ.2.2.2.1, lN (a + (d + 1)), μ.2.2.2.2.2.1, μ.2.2.2.2.2.2)
    rw [show a + 1 + d = a + (d + 1) by omega]
    rfl
theorem sim_go {n : Nat} {k : Int32} (hn : n ≤ 64) : ∀ (d a : Nat) (σ : CS) (μ : MS), a + d < 2 ^ 31 → Sim n k a σ μ → Sim n k (a + d) (fnT (goR n d σ) (lN (a + d))) (mGo n d μ) := by
  intro d
  induction d with
  | zero =>
    intro a σ μ _ h
    obtain ⟨hN, hB, hA, ht, hm, hc⟩ := h
    exact ⟨hN, hB, hA, rfl, hm, hc⟩
  | succ d ih =>
    intro a σ μ hd h
    by_cases s : slp n σ
    · rw [goR_y s, mGo_slp (d + 1) a μ ((sim_slp h).mp s) h.2.2.2.2.1]
      obtain ⟨hN, hB, hA, ht, hm, hc⟩ := h
      exact ⟨fun i hi => (hN i hi).mono (by omega), hB, hA, rfl, rfl, hc⟩
    · rw [goR_n s]
      have z := ih (a + 1) _ _ (by omega) (sim_tk hn (by omega) h)
      rw [show a + 1 + d = a + (d + 1) by omega] at z
      exact z
/-- time goes on, on both sides -/
theorem sim_goT {n a : Nat} {k : Int32} {σ : CS} {μ : MS} {t : Int64} (hn : n ≤ 64) (ha : a < 2 ^ 30) (h : Sim n k a σ μ) (hok : okT σ.2.2.1 t) : ∃ a2, a ≤ a2 ∧ a2 ≤ a + 1000 ∧ Sim n k a2 (goT n σ t) (mGoT n μ t) := by
  obtain ⟨d, hd, e1, e2⟩ := okT_d hok h.2.2.2.1 ha
  have e3 : (t - μ.2.2.2.2.1).toInt.toNat = d := by rw [h.2.2.2.2.1, ← h.2.2.2.1]; exact e2
  have z := sim_go hn d a σ μ (by omega) h
  refine ⟨a + d, by omega, by omega, ?_⟩
  unfold goT mGoT
  rw [e2, e3, e1]
  exact z
