/-! the next order: what nextOrder does, and that the orders come as a search comes upon them -/
def kPv (f : Nat → Nat) : Nat → Nat
  | 0 => 0
  | a + 1 => if f (a + 1) < f a then kPv f a else a + 1
def kJs (f : Nat → Nat) (x : Nat) : Nat → Nat
  | 0 => 0
  | a + 1 => if f (a + 1) < x then kJs f x a else a + 1
def kRv : Nat → (Nat → Nat) → Nat → Nat → Nat → Nat
  | 0, f, _, _ => f
  | d + 1, f, lo, hi => if lo < hi then kRv d (kSw f lo hi) (lo + 1) (hi - 1) else f
def kNO (n : Nat) (f : Nat → Nat) : Nat → Nat := kRv n (kSw f (kPv f (n - 1) - 1) (kJs f (f (kPv f (n - 1) - 1)) (n - 1))) (kPv f (n - 1)) (n - 1)
def kPm (n : Nat) : Nat → List Nat → List (List Nat)
  | 0, q => [q]
  | r + 1, q => (List.range n).flatMap (fun a => if q.contains a then [] else kPm n r (q ++ [a]))
def kFn1 (q : List Nat) : Nat → Nat := fun i => q.getD i 0
def kChB (n : Nat) (q0 : List Nat) : List (List Nat) → Bool
  | [] => kPv (kFn1 q0) (n - 1) == 0
  | q :: t => (kPv (kFn1 q0) (n - 1) != 0) && (((List.range n).all (fun i => kNO n (kFn1 q0) i == kFn1 q i && Nat.blt (kFn1 q i) n)) && kChB n q t)
def kAll (n : Nat) : Bool := match kPm n n [] with
  | [] => false
  | q :: t => q == List.range n && kChB n q t
theorem kAll_0 : kAll 0 = true := by decide +kernel
theorem kAll_1 : kAll 1 = true := by decide +kernel
theorem kAll_2 : kAll 2 = true := by decide +kernel
theorem kAll_3 : kAll 3 = true := by decide +kernel
theorem kAll_4 : kAll 4 = true := by decide +kernel
theorem kAll_5 : kAll 5 = true := by decide +kernel
theorem kAll_6 : kAll 6 = true := by decide +kernel
theorem kAll_7 : kAll 7 = true := by decide +kernel
/-! nextOrder looks below n alone -/
theorem kPv_c {f g : Nat → Nat} : ∀ a, (∀ i, i ≤ a → f i = g i) → kPv f a = kPv g a
  | 0, _ => rfl
  | a + 1, h => by
    simp only [kPv]
    rw [h (a + 1) (Nat.le_refl _), h a (by omega), kPv_c a (fun i hi => h i (by omega))]
theorem kPv_le (f : Nat → Nat) : ∀ a, kPv f a ≤ a
  | 0 => Nat.le_refl _
  | a + 1 => by
    simp only [kPv]
    split
    · exact Nat.le_trans (kPv_le f a) (by omega)
    · exact Nat.le_refl _
theorem kJs_le (f : Nat → Nat) (x : Nat) : ∀ a, kJs f x a ≤ a
  | 0 => Nat.le_refl _
  | a + 1 => by
    simp only [kJs]
    split
    · exact Nat.le_trans (kJs_le f x a) (by omega)
    · exact Nat.le_refl _
theorem kJs_c {f g : Nat → Nat} (x : Nat) : ∀ a, (∀ i, i ≤ a → f i = g i) → kJs f x a = kJs g x a
  | 0, _ => rfl
  | a + 1, h => by
    simp only [kJs]
    rw [h (a + 1) (Nat.le_refl _), kJs_c x a (fun i hi => h i (by omega))]
theorem kSw_c {f g : Nat → Nat} {n a b : Nat} (h : ∀ i, i < n → f i = g i) (ha : a < n) (hb : b < n) : ∀ i, i < n → kSw f a b i = kSw g a b i := fun i hi => by
  simp only [kSw]
  rw [h a ha, h b hb, h i hi]
theorem kRv_c {n : Nat} : ∀ d (f g : Nat → Nat) lo hi, (∀ i, i < n → f i = g i) → hi < n → ∀ i, i < n → kRv d f lo hi i = kRv d g lo hi i
  | 0, f, g, lo, hi, h, _, i, hi2 => h i hi2
  | d + 1, f, g, lo, hi, h, hh, i, hi2 => by
    simp only [kRv]
    split
    · exact kRv_c d _ _ _ _ (kSw_c h (by omega) hh) (by omega) i hi2
    · exact h i hi2
theorem kNO_c {n : Nat} {f g : Nat → Nat} (h : ∀ i, i < n → f i = g i) : ∀ i, i < n → kNO n f i = kNO n g i := fun i hi => by
  have h1 : kPv f (n - 1) = kPv g (n - 1) := kPv_c _ (fun j hj => h j (by omega))
  have h2 := kPv_le g (n - 1)
  have h3 := kJs_le g (g (kPv g (n - 1) - 1)) (n - 1)
  unfold kNO
  rw [h1, h (kPv g (n - 1) - 1) (by omega), kJs_c (f := f) (g := g) _ _ (fun j hj => h j (by omega))]
  exact kRv_c n _ _ _ _ (kSw_c h (by omega) (by omega)) (by omega) i hi
def kCh (n : Nat) (f : Nat → Nat) : List (List Nat) → Prop
  | [] => kPv f (n - 1) = 0
  | q :: t => kPv f (n - 1) ≠ 0 ∧ (∀ i, i < n → kNO n f i = kFn1 q i ∧ kFn1 q i < n) ∧ kCh n (kNO n f) t
theorem kCh_of {n : Nat} : ∀ (t : List (List Nat)) (q0 : List Nat) (f : Nat → Nat), kChB n q0 t = true → (∀ i, i < n → f i = kFn1 q0 i) → kCh n f t
  | [], q0, f, h, hf => by
    by_cases hn : n = 0
    · subst hn; rfl
    · show kPv f (n - 1) = 0
      rw [kPv_c (f := f) (g := kFn1 q0) _ (fun j hj => hf j (by omega))]
      simpa [kChB] using h
  | q :: t, q0, f, h, hf => by
    simp only [kChB, Bool.and_eq_true, List.all_eq_true, List.mem_range, bne_iff_ne, beq_iff_eq] at h
    obtain ⟨h1, h2, h3⟩ := h
    by_cases hn : n = 0
    · subst hn; exact absurd rfl h1
    · have e : ∀ i, i < n → kNO n f i = kFn1 q i := fun i hi => (kNO_c hf i hi).trans (h2 i hi).1
      refine ⟨?_, fun i hi => ⟨e i hi, Nat.le_of_ble_eq_true (h2 i hi).2⟩, kCh_of t q _ h3 e⟩
      rw [kPv_c (f := f) (g := kFn1 q0) _ (fun j hj => hf j (by omega))]
      exact h1
theorem kFn1_r {n i : Nat} (h : i < n) : kFn1 (List.range n) i = i := by
  simp [kFn1, List.getD, h]
theorem kAll_le {n : Nat} (h : n ≤ 7) : kAll n = true := by
  rcases (show n = 0 ∨ n = 1 ∨ n = 2 ∨ n = 3 ∨ n = 4 ∨ n = 5 ∨ n = 6 ∨ n = 7 by omega) with h | h | h | h | h | h | h | h <;> subst h
  · exact kAll_0
  · exact kAll_1
  · exact kAll_2
  · exact kAll_3
  · exact kAll_4
  · exact kAll_5
  · exact kAll_6
  · exact kAll_7
theorem kPm_all {n : Nat} (h : n ≤ 7) {f : Nat → Nat} (hf : ∀ i, i < n → f i = i) : ∃ t, kPm n n [] = List.range n :: t ∧ kCh n f t := by
  have h1 := kAll_le h
  unfold kAll at h1
  generalize kPm n n [] = z at h1 ⊢
  match z, h1 with
  | [], h1 => exact absurd (show false = true from h1) (by decide)
  | q :: t, h1 =>
    simp only [Bool.and_eq_true, beq_iff_eq] at h1
    obtain ⟨h2, h3⟩ := h1
    subst h2
    exact ⟨t, rfl, kCh_of t _ _ h3 (fun i hi => by rw [hf i hi, kFn1_r hi])⟩
theorem kCh_cons {n : Nat} {f : Nat → Nat} {rest : List (List Nat)} (h : kCh n f rest) (hz : kPv f (n - 1) ≠ 0) : ∃ q t, rest = q :: t := by
  cases rest with
  | nil => exact absurd h hz
  | cons q t => exact ⟨q, t, rfl⟩
theorem kCh_nil {n : Nat} {f : Nat → Nat} {rest : List (List Nat)} (h : kCh n f rest) (hz : kPv f (n - 1) = 0) : rest = [] := by
  cases rest with
  | nil => rfl
  | cons q t => exact absurd hz h.1
/-- the best of a row of orders, as they come: the first of the least -/
def mFd {V : Type} (lt : V → V → Bool) (E : (Nat → Nat) → V) : List (List Nat) → V × (Nat → Nat) → V × (Nat → Nat)
  | [], s => s
  | q :: t, s => mFd lt E t (if lt (E (kFn1 q)) s.1 then (E (kFn1 q), kFn1 q) else s)
theorem mFd_app {V : Type} {lt : V → V → Bool} {E : (Nat → Nat) → V} : ∀ (a b : List (List Nat)) (s : V × (Nat → Nat)), mFd lt E (a ++ b) s = mFd lt E b (mFd lt E a s)
  | [], _, _ => rfl
  | q :: t, b, s => mFd_app t b _
theorem mFd_no {V : Type} {lt : V → V → Bool} {E : (Nat → Nat) → V} : ∀ (a : List (List Nat)) (s : V × (Nat → Nat)), (∀ q, q ∈ a → lt (E (kFn1 q)) s.1 = false) → mFd lt E a s = s
  | [], _, _ => rfl
  | q :: t, s, h => by
    show mFd lt E t (if lt (E (kFn1 q)) s.1 then _ else s) = s
    rw [h q (List.mem_cons_self ..), if_neg (by decide)]
    exact mFd_no t s (fun q2 h2 => h q2 (List.mem_cons_of_mem _ h2))
def mEnd (wn hn : Nat → Nat) (wd ck n : Nat) (on : Nat → Nat) : Nat := (mE wn hn wd ck on n).1 + (mE wn hn wd ck on n).2.1
theorem mE_c {wn hn : Nat → Nat} {wd ck : Nat} {f g : Nat → Nat} : ∀ n, (∀ i, i < n → f i = g i) → mE wn hn wd ck f n = mE wn hn wd ck g n
  | 0, _ => rfl
  | n + 1, h => by
    simp only [mE]
    rw [mE_c n (fun i hi => h i (by omega)), h n (by omega)]
theorem mK_c {cu se fi pr : Nat → Nat} {f g : Nat → Nat} : ∀ n, (∀ i, i < n → f i = g i) → mK cu se fi pr f n = mK cu se fi pr g n
  | 0, _ => rfl
  | n + 1, h => by
    simp only [mK]
    rw [mK_c n (fun i hi => h i (by omega)), h n (by omega)]
def mLtN (a b : Nat) : Bool := Nat.blt a b
def mBest (wn hn : Nat → Nat) (wd ck n : Nat) : Nat × (Nat → Nat) := mFd mLtN (mEnd wn hn wd ck n) (kPm n n []) (2000000000, fun _ => 0)
def mLtP (a b : Nat × Nat) : Bool := Nat.blt a.1 b.1 || (a.1 == b.1 && Nat.blt a.2 b.2)
def mLE (cu se fi pr : Nat → Nat) (n : Nat) (on : Nat → Nat) : Nat × Nat := ((mK cu se fi pr on n).2.2.2, (mK cu se fi pr on n).2.2.1)
def mBestC (cu se fi pr : Nat → Nat) (n : Nat) : (Nat × Nat) × (Nat → Nat) := mFd mLtP (mLE cu se fi pr n) (kPm n n []) ((2000000000, 2000000000), fun _ => 0)
