/-! the class while it is made: m1 nodes in its row, m2 in the buses' rows, b1 buses in its row -/
def nv0 : NV := (0, 0, 0, 0, 0, 0, 0, 0)
def gI (n : Nat) (ad : Nat × Nat → Nat) (cN cB cL : ClassId) (m1 m2 b1 : Nat) : Nat × Nat → va_E
  | (0, 0) => .inr (2, [.ref (ad (1, 0)), .ref (ad (2, 0)), .long 0, .int 0])
  | (1, 0) => .inl (cN, n, .inr (.inr (.inr (.inr (fun i => if i < m1 then some (ad (3, i)) else none)))))
  | (2, 0) => .inl (cB, nbs n, .inr (.inr (.inr (.inr (fun i => if i < b1 then some (ad (4, i)) else none)))))
  | (3, i) => .inr (1, nodN (nI (i + 1)) (ad (4, i / 8)))
  | (4, b) => .inr (0, [.ref (ad (5, b)), .ref (ad (6, b)), .int (nI b), .int 0])
  | (5, b) => .inl (cN, mbs n b, .inr (.inr (.inr (.inr (fun k => if k < 8 ∧ 8 * b + k < m2 then some (ad (3, 8 * b + k)) else none)))))
  | (6, _) => .inl (cL, 32, .inr (.inl (cf0 32)))
  | _ => .inr (0, [])
/-- which keys stand when m nodes and b buses are made -/
def inI (m b : Nat) (κ : Nat × Nat) : Prop := κ = (0, 0) ∨ κ = (1, 0) ∨ κ = (2, 0) ∨ (∃ i, i < m ∧ κ = (3, i)) ∨ ∃ c, c < b ∧ (κ = (4, c) ∨ κ = (5, c) ∨ κ = (6, c))
def au1 (ad : Nat × Nat → Nat) (i q : Nat) : Nat × Nat → Nat := fun κ => if κ = (3, i) then q else ad κ
def au3 (ad : Nat × Nat → Nat) (b q q5 q6 : Nat) : Nat × Nat → Nat := fun κ => if κ = (4, b) then q else if κ = (5, b) then q5 else if κ = (6, b) then q6 else ad κ
theorem kW_congr {K : List (Nat × Nat)} {ad ad2 : Nat × Nat → Nat} {g g2 : Nat × Nat → va_E} (h : ∀ κ, κ ∈ K → ad κ = ad2 κ ∧ g κ = g2 κ) : kW K ad g = kW K ad2 g2 := by
  unfold kW
  apply List.map_congr_left
  intro κ hκ
  rw [(h κ hκ).1, (h κ hκ).2]
/-- cells that only speak of keys that stand, are the same under addresses that agree there -/
theorem gI_ext {n : Nat} {ad ad2 : Nat × Nat → Nat} {cN cB cL : ClassId} {m b : Nat} (hm : m ≤ 8 * b) (h : ∀ κ, inI m b κ → ad κ = ad2 κ) (κ : Nat × Nat) (hκ : inI m b κ) : gI n ad cN cB cL m m b κ = gI n ad2 cN cB cL m m b κ := by
  have e3 : ∀ i, i < m → ad (3, i) = ad2 (3, i) := fun i hi => h _ (Or.inr (Or.inr (Or.inr (Or.inl ⟨i, hi, rfl⟩))))
  have e4 : ∀ c, c < b → ad (4, c) = ad2 (4, c) := fun c hc => h _ (Or.inr (Or.inr (Or.inr (Or.inr ⟨c, hc, Or.inl rfl⟩))))
  have e5 : ∀ c, c < b → ad (5, c) = ad2 (5, c) := fun c hc => h _ (Or.inr (Or.inr (Or.inr (Or.inr ⟨c, hc, Or.inr (Or.inl rfl)⟩))))
  have e6 : ∀ c, c < b → ad (6, c) = ad2 (6, c) := fun c hc => h _ (Or.inr (Or.inr (Or.inr (Or.inr ⟨c, hc, Or.inr (Or.inr rfl)⟩))))
  rcases hκ with rfl | rfl | rfl | ⟨i, hi, rfl⟩ | ⟨c, hc, rfl | rfl | rfl⟩
  · simp only [gI, h (1, 0) (Or.inr (Or.inl rfl)), h (2, 0) (Or.inr (Or.inr (Or.inl rfl)))]
  · have : (fun i => if i < m then some (ad (3, i)) else none) = fun i => if i < m then some (ad2 (3, i)) else none := by
      funext i
      by_cases hi : i < m
      · simp [hi, e3 i hi]
      · simp [hi]
    simp only [gI, this]
  · have : (fun i => if i < b then some (ad (4, i)) else none) = fun i => if i < b then some (ad2 (4, i)) else none := by
      funext i
      by_cases hi : i < b
      · simp [hi, e4 i hi]
      · simp [hi]
    simp only [gI, this]
  · simp only [gI, e4 (i / 8) (by omega)]
  · simp only [gI, e5 c hc, e6 c hc]
  · have : (fun k => if k < 8 ∧ 8 * c + k < m then some (ad (3, 8 * c + k)) else none) = fun k => if k < 8 ∧ 8 * c + k < m then some (ad2 (3, 8 * c + k)) else none := by
      funext k
      by_cases hk : k < 8 ∧ 8 * c + k < m
      · simp [hk, e3 _ hk.2]
      · simp only [if_neg hk]
    simp only [gI, this]
  · rfl
theorem au3_old {ad : Nat × Nat → Nat} {m b q q5 q6 : Nat} (κ : Nat × Nat) (h : inI m b κ) : ad κ = au3 ad b q q5 q6 κ := by
  unfold au3
  rcases h with rfl | rfl | rfl | ⟨i, hi, rfl⟩ | ⟨c, hc, rfl | rfl | rfl⟩
  · simp
  · simp
  · simp
  · simp
  · have : c ≠ b := by omega
    simp [this]
  · have : c ≠ b := by omega
    simp [this]
  · have : c ≠ b := by omega
    simp [this]
theorem au1_old {ad : Nat × Nat → Nat} {m b q : Nat} (κ : Nat × Nat) (h : inI m b κ) : ad κ = au1 ad m q κ := by
  unfold au1
  rcases h with rfl | rfl | rfl | ⟨i, hi, rfl⟩ | ⟨c, hc, rfl | rfl | rfl⟩
  · simp
  · simp
  · simp
  · have : i ≠ m := by omega
    simp [this]
  · simp
  · simp
  · simp
theorem gI_bus {n : Nat} {ad : Nat × Nat → Nat} {cN cB cL : ClassId} {m b q q5 q6 : Nat} {K : List (Nat × Nat)} (hK : ∀ κ, κ ∈ K → inI m b κ) (hm : m ≤ 8 * b) : kW K ad (gI n ad cN cB cL m m b) ++ busW cN cL q q5 q6 (nI b) (mbs n b) 32 = kW (K ++ [(4, b), (5, b), (6, b)]) (au3 ad b q q5 q6) (gI n (au3 ad b q q5 q6) cN cB cL m m b) := by
  have h1 : kW K ad (gI n ad cN cB cL m m b) = kW K (au3 ad b q q5 q6) (gI n (au3 ad b q q5 q6) cN cB cL m m b) := kW_congr (fun κ hκ => ⟨au3_old κ (hK κ hκ), gI_ext hm au3_old κ (hK κ hκ)⟩)
  rw [h1]
  have h2 : (fun k => if k < 8 ∧ 8 * b + k < m then some (au3 ad b q q5 q6 (3, 8 * b + k)) else none) = fun _ => (none : Option Nat) := by
    funext k
    rw [if_neg (by omega)]
  show _ = kW (K ++ [(4, b), (5, b), (6, b)]) _ _
  unfold kW
  rw [List.map_append]
  congr 1
  show _ = [(au3 ad b q q5 q6 (4, b), gI n (au3 ad b q q5 q6) cN cB cL m m b (4, b)), (au3 ad b q q5 q6 (5, b), gI n (au3 ad b q q5 q6) cN cB cL m m b (5, b)), (au3 ad b q q5 q6 (6, b), gI n (au3 ad b q q5 q6) cN cB cL m m b (6, b))]
  have a4 : au3 ad b q q5 q6 (4, b) = q := by simp [au3]
  have a5 : au3 ad b q q5 q6 (5, b) = q5 := by simp [au3]
  have a6 : au3 ad b q q5 q6 (6, b) = q6 := by simp [au3]
  simp only [gI, h2, a4, a5, a6]
theorem gI_node {n : Nat} {ad : Nat × Nat → Nat} {cN cB cL : ClassId} {m b q : Nat} {K : List (Nat × Nat)} (hK : ∀ κ, κ ∈ K → inI m b κ) (hm : m ≤ 8 * b) : kW K ad (gI n ad cN cB cL m m b) ++ [(q, .inr (1, nodN (nI (m + 1)) (ad (4, m / 8))))] = kW (K ++ [(3, m)]) (au1 ad m q) (gI n (au1 ad m q) cN cB cL m m b) := by
  have h1 : kW K ad (gI n ad cN cB cL m m b) = kW K (au1 ad m q) (gI n (au1 ad m q) cN cB cL m m b) := kW_congr (fun κ hκ => ⟨au1_old κ (hK κ hκ), gI_ext hm au1_old κ (hK κ hκ)⟩)
  rw [h1]
  unfold kW
  rw [List.map_append]
  congr 1
  show _ = [(au1 ad m q (3, m), gI n (au1 ad m q) cN cB cL m m b (3, m))]
  have a3 : au1 ad m q (3, m) = q := by simp [au1]
  have a4 : au1 ad m q (4, m / 8) = ad (4, m / 8) := by simp [au1]
  simp only [gI, a3, a4]
theorem inI_bus {m b : Nat} {K : List (Nat × Nat)} (hK : ∀ κ, κ ∈ K ↔ inI m b κ) : ∀ κ, κ ∈ K ++ [(4, b), (5, b), (6, b)] ↔ inI m (b + 1) κ := by
  intro κ
  rw [List.mem_append, hK κ]
  simp only [List.mem_cons, List.not_mem_nil, or_false]
  constructor
  · rintro ((h | h | h | h | ⟨c, hc, h⟩) | h)
    · exact Or.inl h
    · exact Or.inr (Or.inl h)
    · exact Or.inr (Or.inr (Or.inl h))
    · exact Or.inr (Or.inr (Or.inr (Or.inl h)))
    · exact Or.inr (Or.inr (Or.inr (Or.inr ⟨c, by omega, h⟩)))
    · exact Or.inr (Or.inr (Or.inr (Or.inr ⟨b, by omega, h⟩)))
  · rintro (h | h | h | h | ⟨c, hc, h⟩)
    · exact Or.inl (Or.inl h)
    · exact Or.inl (Or.inr (Or.inl h))
    · exact Or.inl (Or.inr (Or.inr (Or.inl h)))
    · exact Or.inl (Or.inr (Or.inr (Or.inr (Or.inl h))))
    · rcases Nat.lt_or_ge c b with z | z
      · exact Or.inl (Or.inr (Or.inr (Or.inr (Or.inr ⟨c, z, h⟩))))
      · have : c = b := by omega
        subst this
        exact Or.inr h
theorem inI_node {m b : Nat} {K : List (Nat × Nat)} (hK : ∀ κ, κ ∈ K ↔ inI m b κ) : ∀ κ, κ ∈ K ++ [(3, m)] ↔ inI (m + 1) b κ := by
  intro κ
  rw [List.mem_append, hK κ]
  simp only [List.mem_cons, List.not_mem_nil, or_false]
  constructor
  · rintro ((h | h | h | ⟨i, hi, h⟩ | h) | h)
    · exact Or.inl h
    · exact Or.inr (Or.inl h)
    · exact Or.inr (Or.inr (Or.inl h))
    · exact Or.inr (Or.inr (Or.inr (Or.inl ⟨i, by omega, h⟩)))
    · exact Or.inr (Or.inr (Or.inr (Or.inr h)))
    · exact Or.inr (Or.inr (Or.inr (Or.inl ⟨m, by omega, h⟩)))
  · rintro (h | h | h | ⟨i, hi, h⟩ | h)
    · exact Or.inl (Or.inl h)
    · exact Or.inl (Or.inr (Or.inl h))
    · exact Or.inl (Or.inr (Or.inr (Or.inl h)))
    · rcases Nat.lt_or_ge i m with z | z
      · exact Or.inl (Or.inr (Or.inr (Or.inr (Or.inl ⟨i, z, h⟩))))
      · have : i = m := by omega
        subst this
        exact Or.inr h
    · exact Or.inl (Or.inr (Or.inr (Or.inr (Or.inr h))))
theorem gI_only {n : Nat} {ad : Nat × Nat → Nat} {cN cB cL : ClassId} {m1 m2 b1 m1' m2' b1' : Nat} {k : Nat × Nat} {e : va_E} (he : gI n ad cN cB cL m1' m2' b1' k = e) (h1 : (1, 0) ≠ k → m1 = m1') (h2 : (2, 0) ≠ k → b1 = b1') (h5 : ∀ c, (5, c) ≠ k → gI n ad cN cB cL m1 m2 b1 (5, c) = gI n ad cN cB cL m1' m2' b1' (5, c)) : ku (gI n ad cN cB cL m1 m2 b1) k e = gI n ad cN cB cL m1' m2' b1' := by
  funext κ
  unfold ku
  split
  · next z => subst z; exact he.symm
  · next z =>
    obtain ⟨a, b⟩ := κ
    match a, b, z with
    | 0, 0, _ => rfl
    | 0, b + 1, _ => rfl
    | 1, 0, z => have := h1 z; subst this; rfl
    | 1, b + 1, _ => rfl
    | 2, 0, z => have := h2 z; subst this; rfl
    | 2, b + 1, _ => rfl
    | 3, _, _ => rfl
    | 4, _, _ => rfl
    | 5, c, z => exact h5 c z
    | 6, _, _ => rfl
    | a + 7, _, _ => rfl
theorem gI_b {n : Nat} {ad : Nat × Nat → Nat} {cN cB cL : ClassId} {m1 m2 b : Nat} : ku (gI n ad cN cB cL m1 m2 b) (2, 0) (.inl (cB, nbs n, .inr (.inr (.inr (.inr (va_up (fun i => if i < b then some (ad (4, i)) else none) b (some (ad (4, b))))))))) = gI n ad cN cB cL m1 m2 (b + 1) := by
  refine gI_only ?_ (fun _ => rfl) (fun z => absurd rfl z) (fun c _ => rfl)
  have : (fun i => if i < b + 1 then some (ad (4, i)) else none) = va_up (fun i => if i < b then some (ad (4, i)) else none) b (some (ad (4, b))) := by
    funext i
    unfold va_up
    by_cases hi : i = b
    · subst hi; simp
    · have : (i < b + 1) = (i < b) := by apply propext; omega
      simp [hi, this]
  simp only [gI, this]
theorem gI_1 {n : Nat} {ad : Nat × Nat → Nat} {cN cB cL : ClassId} {m m2 b : Nat} : ku (gI n ad cN cB cL m m2 b) (1, 0) (.inl (cN, n, .inr (.inr (.inr (.inr (va_up (fun i => if i < m then some (ad (3, i)) else none) m (some (ad (3, m))))))))) = gI n ad cN cB cL (m + 1) m2 b := by
  refine gI_only ?_ (fun z => absurd rfl z) (fun _ => rfl) (fun c _ => rfl)
  have : (fun i => if i < m + 1 then some (ad (3, i)) else none) = va_up (fun i => if i < m then some (ad (3, i)) else none) m (some (ad (3, m))) := by
    funext i
    unfold va_up
    by_cases hi : i = m
    · subst hi; simp
    · have : (i < m + 1) = (i < m) := by apply propext; omega
      simp [hi, this]
  simp only [gI, this]
theorem gI_5 {n : Nat} {ad : Nat × Nat → Nat} {cN cB cL : ClassId} {m1 m b b1 k : Nat} (hk : k < 8) (hm : m = 8 * b + k) : ku (gI n ad cN cB cL m1 m b1) (5, b) (.inl (cN, mbs n b, .inr (.inr (.inr (.inr (va_up (fun k => if k < 8 ∧ 8 * b + k < m then some (ad (3, 8 * b + k)) else none) k (some (ad (3, m))))))))) = gI n ad cN cB cL m1 (m + 1) b1 := by
  refine gI_only ?_ (fun _ => rfl) (fun _ => rfl) (fun c z => ?_)
  · have : (fun k => if k < 8 ∧ 8 * b + k < m + 1 then some (ad (3, 8 * b + k)) else none) = va_up (fun k => if k < 8 ∧ 8 * b + k < m then some (ad (3, 8 * b + k)) else none) k (some (ad (3, m))) := by
      funext i
      unfold va_up
      by_cases hi : i = k
      · subst hi; subst hm; simp [hk]
      · have : (i < 8 ∧ 8 * b + i < m + 1) = (i < 8 ∧ 8 * b + i < m) := by apply propext; omega
        simp [hi, this]
    simp only [gI, this]
  · have hc : c ≠ b := fun e => z (by rw [e])
    have : (fun k => if k < 8 ∧ 8 * c + k < m then some (ad (3, 8 * c + k)) else none) = fun k => if k < 8 ∧ 8 * c + k < m + 1 then some (ad (3, 8 * c + k)) else none := by
      funext i
      have : (i < 8 ∧ 8 * c + i < m + 1) = (i < 8 ∧ 8 * c + i < m) := by apply propext; omega
      simp only [this]
    simp only [gI, this]
/-- the class as it begins -/
def cs0 : CS := (fun _ => nv0, fun b => (nI b, 0, cf0 32), 0, 0)
theorem arrV_congr {c : ClassId} {N : Nat} {f g : Nat → Value} (h : ∀ j, j < N → f j = g j) : arrV c N f = arrV c N g := by
  unfold arrV
  congr 1
  congr 1
  funext j
  exact h j.val j.isLt
theorem refs_congr {c : ClassId} {N : Nat} {f g : Nat → Option Nat} (h : ∀ j, j < N → f j = g j) : vp_cell c (N, .inr (.inr (.inr (.inr f)))) = vp_cell c (N, .inr (.inr (.inr (.inr g)))) := by
  rw [vp_cell_q, vp_cell_q]
  exact arrV_congr (fun j hj => by rw [h j hj])
theorem kC_nodup : ∀ n, n < 65 → (kC n).Nodup := by decide +kernel
theorem kC_in {n : Nat} (κ : Nat × Nat) : κ ∈ kC n ↔ inI n (nbs n) κ := by
  simp only [kC, inI, List.mem_append, List.mem_cons, List.not_mem_nil, or_false, List.mem_map, List.mem_range]
  constructor
  · rintro ((h | h | h) | ⟨i, hi, rfl⟩ | ⟨i, hi, rfl⟩ | ⟨i, hi, rfl⟩ | ⟨i, hi, rfl⟩)
    · exact Or.inl h
    · exact Or.inr (Or.inl h)
    · exact Or.inr (Or.inr (Or.inl h))
    · exact Or.inr (Or.inr (Or.inr (Or.inl ⟨i, hi, rfl⟩)))
    · exact Or.inr (Or.inr (Or.inr (Or.inr ⟨i, hi, Or.inl rfl⟩)))
    · exact Or.inr (Or.inr (Or.inr (Or.inr ⟨i, hi, Or.inr (Or.inl rfl)⟩)))
    · exact Or.inr (Or.inr (Or.inr (Or.inr ⟨i, hi, Or.inr (Or.inr rfl)⟩)))
  · rintro (h | h | h | ⟨i, hi, rfl⟩ | ⟨c, hc, rfl | rfl | rfl⟩)
    · exact Or.inl (Or.inl h)
    · exact Or.inl (Or.inr (Or.inl h))
    · exact Or.inl (Or.inr (Or.inr h))
    · exact Or.inr (Or.inl ⟨i, hi, rfl⟩)
    · exact Or.inr (Or.inr (Or.inl ⟨c, hc, rfl⟩))
    · exact Or.inr (Or.inr (Or.inr (Or.inl ⟨c, hc, rfl⟩)))
    · exact Or.inr (Or.inr (Or.inr (Or.inr ⟨c, hc, rfl⟩)))
/-- what was made is the class as it begins -/
theorem gI_end {D : va_G} {A : Nat → Prop} {n : Nat} {ad : Nat × Nat → Nat} {cN cB cL : ClassId} {K : List (Nat × Nat)} {H : Heap} (hn : n ≤ 64) (hK : ∀ κ, κ ∈ K ↔ inI n (nbs n) κ) (hP : va_P D kCl (kW K ad (gI n ad cN cB cL n n (nbs n))) H) (hD : va_D A (kW K ad (gI n ad cN cB cL n n (nbs n)))) : va_P D kCl (kW (kC n) ad (gC n ad cN cB cL cs0)) H ∧ va_D A (kW (kC n) ad (gC n ad cN cB cL cs0)) := by
  have hat : ∀ κ, inI n (nbs n) κ → va_at D kCl (ad κ, gI n ad cN cB cL n n (nbs n) κ) H := fun κ h => by
    obtain ⟨k0, -, h2⟩ := kW_at (ad := ad) (g := gI n ad cN cB cL n n (nbs n)) ((hK κ).mpr h)
    exact hP k0 _ h2
  constructor
  · intro k q hq
    obtain ⟨κ, hκ, rfl⟩ := kW_mem hq
    have hi := (kC_in κ).mp hκ
    have z := hat κ hi
    rcases hi with rfl | rfl | rfl | ⟨i, hi, rfl⟩ | ⟨c, hc, rfl | rfl | rfl⟩
    · exact z
    · refine Eq.trans (show H[ad (1, 0)]? = _ from z) ?_
      congr 1
      exact refs_congr (fun j hj => by simp [hj])
    · refine Eq.trans (show H[ad (2, 0)]? = _ from z) ?_
      congr 1
      exact refs_congr (fun j hj => by simp [hj])
    · exact z
    · exact z
    · refine Eq.trans (show H[ad (5, c)]? = _ from z) ?_
      congr 1
      exact refs_congr (fun j hj => by
        have h1 : j < 8 ∧ 8 * c + j < n := by unfold mbs at hj; omega
        simp [h1])
    · exact z
  · constructor
    · intro i j p q hp hq e
      have inj : ∀ a b : Nat × Nat, a ∈ kC n → b ∈ kC n → ad a = ad b → a = b := fun a b ha hb e => kD_inj hD ((hK a).mpr ((kC_in a).mp ha)) ((hK b).mpr ((kC_in b).mp hb)) e
      simp only [kW, List.getElem?_map] at hp hq
      cases ha : (kC n)[i]? with
      | none => rw [ha] at hp; cases hp
      | some a =>
        cases hb : (kC n)[j]? with
        | none => rw [hb] at hq; cases hq
        | some b =>
          rw [ha] at hp
          rw [hb] at hq
          have e1 := Option.some.inj hp
          have e2 := Option.some.inj hq
          have hab : a = b := inj a b (List.mem_of_getElem? ha) (List.mem_of_getElem? hb) (by rw [← e1, ← e2] at e; exact e)
          subst hab
          have h1 := (List.getElem?_eq_some_iff.mp ha)
          have h2 := (List.getElem?_eq_some_iff.mp hb)
          have hnd := List.pairwise_iff_getElem.mp (kC_nodup n (by omega))
          rcases Nat.lt_trichotomy i j with z | z | z
          · exact absurd (h1.2.trans h2.2.symm) (hnd i j h1.1 h2.1 z)
          · exact z
          · exact absurd (h2.2.trans h1.2.symm) (hnd j i h2.1 h1.1 z)
    · intro k q hq
      obtain ⟨κ, hκ, rfl⟩ := kW_mem hq
      obtain ⟨k0, -, h2⟩ := kW_at (ad := ad) (g := gI n ad cN cB cL n n (nbs n)) ((hK κ).mpr ((kC_in κ).mp hκ))
      have z := hD.2 k0 _ h2
      exact z
section KQ
variable {p : Program} {l : Launch} {e : Env} {R : Room} {s : State} {m : MethodId} {args : Array Value} {below : List Frame} {meth : Method} {c : Code} {H : Heap} {locs : List Loc} {cells slots : Nat} {Q : State → Prop}
variable {cc : ByteArray} {pc : Nat} {ls : Array Slot} {rest : List Value} {D : va_G} {A : Nat → Prop} {tys : List (ClassId × FieldType)} {H0 : Heap} {K : List (Nat × Nat)} {ad : Nat × Nat → Nat} {g : Nat × Nat → va_E}
theorem kx_aast (hexec : p.tables.exec = Jvm.exec) (hb : c.code = cc) (hK : va_K D kCl tys s) (hP : va_P D kCl (kW K ad g) H) (hD : va_D A (kW K ad g)) (hS0 : va_S A H0 H locs) {κ κv : Nat × Nat} (hκ : κ ∈ K) (hκv : κv ∈ K) (t0 : Nat) {cA : ClassId} {n i ci : Nat} {f : Nat → Option Nat} {r : vw_C} {vs : List Value} (he : g κ = .inl (cA, n, .inr (.inr (.inr (.inr f))))) (hev : g κv = .inr (ci, vs)) (hc : kCl[ci]? = some r) (ht : tys[t0]? = some (cA, .object r.1)) {x : Int32} (hx : x = nI i) (hi : i < n) (hn : n < 2 ^ 31) {g2 : Nat × Nat → va_E} (hg : ku g κ (.inl (cA, n, .inr (.inr (.inr (.inr (va_up f i (some (ad κv)))))))) = g2) (hdg : decode cc pc = .ok (.aastore, 1))
    (kk : ∀ (H1 : Heap) (locs1 : List Loc), va_P D kCl (kW K ad g2) H1 → va_D A (kW K ad g2) → va_S A H0 H1 locs1 → W p l e R s m args below meth c H1 locs1 cells slots Q (F0 m (pc + 1) ls rest)) : W p l e R s m args below meth c H locs cells slots Q (F0 m pc ls (.ref (ad κv) :: .int x :: .ref (ad κ) :: rest)) := by
  obtain ⟨k0, h1, h2⟩ := kW_at (ad := ad) (g := g) hκ
  obtain ⟨k1, -, h4⟩ := kW_at (ad := ad) (g := g) hκv
  rw [he] at h2
  rw [hev] at h4
  subst hx
  refine va_astq hexec hb hK hP hD hS0 k0 t0 k1 ci h2 ht h4 hc (vp_in_nI hi hn) hdg (fun H1 locs1 hP1 hD1 hS1 => ?_)
  rw [nI_clamp (by omega), kW_set hD h1, hg] at hP1 hD1
  exact kk H1 locs1 hP1 hD1 hS1
end KQ
