/-! the class's numbers are the reference's: tellings, found -/
theorem jx_rng (x : Int32) : -2147483648 ≤ x.toInt ∧ x.toInt < 2147483648 := by
  have h1 := Int32.le_toInt x
  have h2 := Int32.toInt_lt x
  omega
theorem jx_bm {z : Int} (h : z.natAbs < 2147483648) : z.bmod (2 ^ 32) = z := by
  rw [Int.bmod_eq_of_le (by omega) (by omega)]
theorem jx_add {x y : Int32} (h : (x.toInt + y.toInt).natAbs < 2147483648) : (x + y).toInt = x.toInt + y.toInt := by
  rw [Int32.toInt_add, jx_bm h]
theorem jx_sub {x y : Int32} (h : (x.toInt - y.toInt).natAbs < 2147483648) : (x - y).toInt = x.toInt - y.toInt := by
  rw [Int32.toInt_sub, jx_bm h]
theorem jx_mul {x y : Int32} {a b : Nat} (hx : x.toInt.natAbs ≤ a) (hy : y.toInt.natAbs ≤ b) (h : a * b < 2147483648) : (x * y).toInt = x.toInt * y.toInt ∧ (x * y).toInt.natAbs ≤ a * b := by
  have h1 : (x.toInt * y.toInt).natAbs ≤ a * b := by
    rw [Int.natAbs_mul]
    exact Nat.mul_le_mul hx hy
  have h2 : (x * y).toInt = x.toInt * y.toInt := by
    rw [Int32.toInt_mul, jx_bm (Nat.lt_of_le_of_lt h1 h)]
  exact ⟨h2, by rw [h2]; exact h1⟩
theorem jx_tdiv (z w : Int) : (z.tdiv w).natAbs ≤ z.natAbs := by
  rw [Int.natAbs_tdiv]
  exact Nat.div_le_self _ _
theorem jx_div {x y : Int32} (h : x.toInt.natAbs < 2147483648) : (x / y).toInt = x.toInt.tdiv y.toInt := by
  rw [Int32.toInt_div, jx_bm (Nat.lt_of_le_of_lt (jx_tdiv _ _) h)]
theorem kLast_20 {bd ms dy : Nat → Int32} {body measure : Int32} : ∀ n, (∀ i, i < n → dy i ≤ 10000) → kLast bd ms dy body measure 10001 n = kLast bd ms dy body measure 20000 n
  | 0, _ => rfl
  | n + 1, h => by
    have e := kLast_20 (bd := bd) (ms := ms) (body := body) (measure := measure) n (fun i hi => h i (by omega))
    have h1 : dy n < 10001 := Int32.lt_of_le_of_lt (h n (by omega)) (by decide)
    have h2 : dy n < 20000 := Int32.lt_of_le_of_lt (h n (by omega)) (by decide)
    rw [kLast, kLast, e]
    by_cases c : (bd n = body ∧ ms n = measure) ∧ kLast bd ms dy body measure 20000 n < dy n
    · rw [if_pos ⟨c.1, h1, c.2⟩, if_pos ⟨c.1, h2, c.2⟩]
    · rw [if_neg (fun q => c ⟨q.1, q.2.2⟩), if_neg (fun q => c ⟨q.1, q.2.2⟩)]
theorem kLast_m1 {bd ms dy : Nat → Int32} {body measure : Int32} : ∀ n, (∀ i, i < n → 0 ≤ dy i) → kLast bd ms dy body measure (-1) n = -1
  | 0, _ => rfl
  | n + 1, h => by
    rw [kLast, if_neg (fun q => absurd (Int32.lt_of_le_of_lt (h n (by omega)) q.2.1) (by decide)), kLast_m1 n (fun i hi => h i (by omega))]
theorem kLat_eq {hd bd ms dy vl hbt : Nat → Int32} {told : Nat} {body measure : Int32} (h : ∀ i, i < told → dy i ≤ 10000) : kLat20 hd bd ms dy vl hbt told body measure = kLatest hd bd ms dy vl hbt told body measure := by
  unfold kLat20 kLatest
  rw [kLast_20 told h]
theorem kGrow_eq {hd bd ms dy vl hbt : Nat → Int32} {told : Nat} {body measure : Int32} (h : ∀ i, i < told → dy i ≤ 10000) (h0 : ∀ i, i < told → 0 ≤ dy i) : kGrow20 hd bd ms dy vl hbt told body measure = kGrow hd bd ms dy vl hbt told body measure := by
  unfold kGrow20 kGrow
  rw [kLast_20 told h]
  by_cases c : kLast bd ms dy body measure 20000 told = -1
  · rw [if_pos c, c, kLast_m1 told h0, if_pos rfl]
  · rw [if_neg c]
theorem mFs_eq {hd bd ms dy vl : Nat → Int32} {measure sx tx : Int32} {i : Nat} (h : hd i = sx ∧ ms i = measure) : ∀ n a, mFs hd bd ms dy vl measure sx tx i n a = kFs hd bd ms dy vl tx i n a
  | 0, _ => rfl
  | j + 1, a => by
    rw [mFs, kFs, mFs_eq h j a]
    by_cases c : hd j = tx ∧ (ms i = ms j ∧ bd i = bd j ∧ dy i = dy j)
    · rw [if_pos (show mFc hd bd ms dy measure sx tx i j from ⟨⟨h.1, c.1, h.2⟩, ⟨c.2.2.1.symm, c.2.1.symm.trans h.2⟩, c.2.2.2⟩), if_pos c]
    · rw [if_neg (show ¬ mFc hd bd ms dy measure sx tx i j from fun q => c ⟨q.1.2.1, h.2.trans q.2.1.2.symm, q.2.1.1.symm, q.2.2⟩), if_neg c]
theorem mFn_eq {hd bd ms dy : Nat → Int32} {measure sx tx : Int32} {i : Nat} (h : hd i = sx ∧ ms i = measure) : ∀ n a, mFn hd bd ms dy measure sx tx i n a = kFn hd bd ms dy tx i n a
  | 0, _ => rfl
  | j + 1, a => by
    rw [mFn, kFn, mFn_eq h j a]
    by_cases c : hd j = tx ∧ (ms i = ms j ∧ bd i = bd j ∧ dy i = dy j)
    · rw [if_pos (show mFc hd bd ms dy measure sx tx i j from ⟨⟨h.1, c.1, h.2⟩, ⟨c.2.2.1.symm, c.2.1.symm.trans h.2⟩, c.2.2.2⟩), if_pos c]
    · rw [if_neg (show ¬ mFc hd bd ms dy measure sx tx i j from fun q => c ⟨q.1.2.1, h.2.trans q.2.1.2.symm, q.2.1.1.symm, q.2.2⟩), if_neg c]
theorem mFs_no {hd bd ms dy vl : Nat → Int32} {measure sx tx : Int32} {i : Nat} (h : ¬ (hd i = sx ∧ ms i = measure)) : ∀ n a, mFs hd bd ms dy vl measure sx tx i n a = a
  | 0, _ => rfl
  | j + 1, a => by
    rw [mFs, if_neg (show ¬ mFc hd bd ms dy measure sx tx i j from fun q => h ⟨q.1.1, q.1.2.2⟩), mFs_no h j a]
theorem mFn_no {hd bd ms dy : Nat → Int32} {measure sx tx : Int32} {i : Nat} (h : ¬ (hd i = sx ∧ ms i = measure)) : ∀ n a, mFn hd bd ms dy measure sx tx i n a = a
  | 0, _ => rfl
  | j + 1, a => by
    rw [mFn, if_neg (show ¬ mFc hd bd ms dy measure sx tx i j from fun q => h ⟨q.1.1, q.1.2.2⟩), mFn_no h j a]
theorem mFS_eq {hd bd ms dy vl : Nat → Int32} {told : Nat} {measure sx tx : Int32} : ∀ n, mFS hd bd ms dy vl told measure sx tx n = kFS hd bd ms dy vl told measure sx tx n
  | 0 => rfl
  | i + 1 => by
    rw [mFS, kFS, mFS_eq i]
    by_cases c : hd i = sx ∧ ms i = measure
    · rw [if_pos c, mFs_eq c]
    · rw [if_neg c, mFs_no c]
theorem mFN_eq {hd bd ms dy : Nat → Int32} {told : Nat} {measure sx tx : Int32} : ∀ n, mFN hd bd ms dy told measure sx tx n = kFN hd bd ms dy told measure sx tx n
  | 0 => rfl
  | i + 1 => by
    rw [mFN, kFN, mFN_eq i]
    by_cases c : hd i = sx ∧ ms i = measure
    · rw [if_pos c, mFn_eq c]
    · rw [if_neg c, mFn_no c]
theorem mFound_eq {hd bd ms dy vl : Nat → Int32} {told : Nat} {measure sx tx : Int32} : mFound hd bd ms dy vl told measure sx tx = kFound hd bd ms dy vl told measure sx tx := by
  unfold mFound kFound
  rw [mFS_eq, mFN_eq]
  by_cases c : nI (kFN hd bd ms dy told measure sx tx told) = 0
  · rw [if_pos c, if_pos c]
  · rw [if_neg c, if_neg c, kdiv, if_neg c]
/-! a mean lies between -50 and 3050 -/
theorem kCnt_le {bd ms dy : Nat → Int32} {body measure day : Int32} : ∀ n, kCnt bd ms dy body measure day n ≤ n
  | 0 => Nat.le_refl _
  | n + 1 => by
    have := kCnt_le (bd := bd) (ms := ms) (dy := dy) (body := body) (measure := measure) (day := day) n
    rw [kCnt]
    split <;> omega
theorem kSum_b {hd bd ms dy vl hb : Nat → Int32} {body measure day : Int32} : ∀ n, n ≤ 40 → (∀ i, i < n → 0 ≤ (vl i).toInt ∧ (vl i).toInt ≤ 3000) → (∀ k, (hb k).toInt.natAbs ≤ 50) → -50 * (kCnt bd ms dy body measure day n : Int) ≤ (kSum hd bd ms dy vl hb body measure day n).toInt ∧ (kSum hd bd ms dy vl hb body measure day n).toInt ≤ 3050 * (kCnt bd ms dy body measure day n : Int)
  | 0, _, _, _ => by
    rw [kSum, kCnt]
    decide
  | n + 1, hn, hv, hh => by
    have ih := kSum_b (hd := hd) (bd := bd) (ms := ms) (dy := dy) (body := body) (measure := measure) (day := day) n (by omega) (fun i hi => hv i (by omega)) hh
    have hc := kCnt_le (bd := bd) (ms := ms) (dy := dy) (body := body) (measure := measure) (day := day) n
    have h1 := hv n (by omega)
    have h2 := hh (hd n * 6 + measure).toNatClampNeg
    rw [kSum, kCnt]
    split
    · have e1 : (vl n - hb (hd n * 6 + measure).toNatClampNeg).toInt = (vl n).toInt - (hb (hd n * 6 + measure).toNatClampNeg).toInt := jx_sub (by omega)
      rw [jx_add (by rw [e1]; omega), e1]
      omega
    · exact ih
theorem kMean_b {hd bd ms dy vl hb : Nat → Int32} {told : Nat} {body measure day : Int32} (hn : told ≤ 40) (hv : ∀ i, i < told → 0 ≤ (vl i).toInt ∧ (vl i).toInt ≤ 3000) (hh : ∀ k, (hb k).toInt.natAbs ≤ 50) : (kMean hd bd ms dy vl hb told body measure day).toInt.natAbs ≤ 3050 := by
  have ih := kSum_b (hd := hd) (bd := bd) (ms := ms) (dy := dy) (body := body) (measure := measure) (day := day) told hn hv hh
  have hc := kCnt_le (bd := bd) (ms := ms) (dy := dy) (body := body) (measure := measure) (day := day) told
  unfold kMean kdiv
  split
  · decide
  · rename_i h0
    rw [jx_div (by omega), nI_toInt (by omega), Int.natAbs_tdiv]
    have hp : 0 < kCnt bd ms dy body measure day told := by
      rcases Nat.eq_zero_or_pos (kCnt bd ms dy body measure day told) with e | e
      · rw [e] at h0; exact absurd rfl h0
      · exact e
    show (kSum hd bd ms dy vl hb body measure day told).toInt.natAbs / (kCnt bd ms dy body measure day told) ≤ 3050
    exact Nat.div_le_of_le_mul (by omega)
theorem kLatest_b {hd bd ms dy vl hb : Nat → Int32} {told : Nat} {body measure : Int32} (hn : told ≤ 40) (hv : ∀ i, i < told → 0 ≤ (vl i).toInt ∧ (vl i).toInt ≤ 3000) (hh : ∀ k, (hb k).toInt.natAbs ≤ 50) : (kLatest hd bd ms dy vl hb told body measure).toInt.natAbs ≤ 3050 := kMean_b hn hv hh
theorem kBMu_at {hd bd ms dy vl hbt : Nat → Int32} {told : Nat} {body : Int32} {bm : Nat → Int32} {j : Nat} : ∀ n, j < n → kBMu hd bd ms dy vl hbt told body bm n j = kLatest hd bd ms dy vl hbt told body (nI j)
  | 0, h => absurd h (Nat.not_lt_zero _)
  | n + 1, h => by
    rw [kBMu]
    unfold upd
    by_cases e : j = n
    · rw [if_pos e, e]
    · rw [if_neg e, kBMu_at n (by omega)]
/-! the points -/
def jK1 (kd ba aa : Nat → Int32) : Nat → Int32 := fun p => if kd p = 0 then aa p else ba p
def jK2 (kd ot aa bb : Nat → Int32) : Nat → Int32 := fun p => if kd p = 0 then bb p else if kd p = 1 then aa p else ot p
def jK3 (kd aa bb : Nat → Int32) : Nat → Int32 := fun p => if kd p = 0 then 0 else if kd p = 1 then bb p else aa p
def jK4 (kd bb : Nat → Int32) : Nat → Int32 := fun p => if kd p = 0 then 0 else if kd p = 1 then 0 else bb p
def jPt (kd ba ot aa bb : Nat → Int32) (p : Nat) : Prop :=
  (kd p = 0 ∧ (aa p).toInt.natAbs ≤ 5000 ∧ (bb p).toInt.natAbs ≤ 5000) ∨
  (kd p = 1 ∧ (∃ j, j < p ∧ ba p = nI j) ∧ (aa p).toInt.natAbs ≤ 5000 ∧ (bb p).toInt.natAbs ≤ 5000) ∨
  ((kd p = 2 ∨ kd p = 3) ∧ (∃ j, j < p ∧ ba p = nI j) ∧ (∃ j, j < 6 ∧ ot p = nI j) ∧ (aa p).toInt.natAbs ≤ 20 ∧ 1 ≤ (bb p).toInt) ∨
  (kd p = 4 ∧ (∃ j, j < p ∧ ba p = nI j) ∧ (∃ j, j < p ∧ ot p = nI j))
theorem jx_ne0 {x : Int32} (h : 1 ≤ x.toInt) : ¬ x = 0 := fun e => by
  rw [e] at h
  exact absurd h (by decide)
theorem jPX_eq {kd ba ot aa bb bm x1 x2 : Nat → Int32} {lt : Int32 → Int32} {p : Nat} (h : jPt kd ba ot aa bb p) (hp : p < 20) (hx : ∀ j, j < p → x2 j = x1 j) (hb : ∀ j, j < 6 → lt (nI j) = bm j) : mPX kd (jK1 kd ba aa) (jK2 kd ot aa bb) (jK3 kd aa bb) (jK4 kd bb) lt x2 p = kPX kd ba ot aa bb bm x1 p := by
  rcases h with ⟨h0, _⟩ | ⟨h1, ⟨j, hj, hbj⟩, _⟩ | ⟨h23, ⟨j, hj, hbj⟩, ⟨k, hk, hok⟩, _, hbb⟩ | ⟨h4, ⟨j, hj, hbj⟩, ⟨k, hk, hok⟩⟩
  · rw [mPX, kPX, if_pos h0, if_pos h0, jK1, if_pos h0]
  · have n0 : ¬ kd p = 0 := by rw [h1]; decide
    rw [mPX, kPX, if_neg n0, if_neg n0, if_pos h1, if_pos h1, jK1, jK2, if_neg n0, if_neg n0, if_pos h1, hbj, nI_clamp (by omega), hx j hj]
  · have n0 : ¬ kd p = 0 := by rcases h23 with h | h <;> rw [h] <;> decide
    have n1 : ¬ kd p = 1 := by rcases h23 with h | h <;> rw [h] <;> decide
    have n4 : ¬ kd p = 4 := by rcases h23 with h | h <;> rw [h] <;> decide
    rw [mPX, kPX, if_neg n0, if_neg n0, if_neg n1, if_neg n1, if_neg n4, jK1, if_neg n0, hbj, nI_clamp (by omega), hx j hj]
    rcases h23 with h2 | h3
    · rw [if_pos h2, if_pos h2, jK2, jK3, jK4, if_neg n0, if_neg n0, if_neg n0, if_neg n1, if_neg n1, if_neg n1, kPart, kdiv, if_neg (jx_ne0 hbb), hok, nI_clamp (by omega), hb k hk]
    · rw [if_neg (show ¬ kd p = 2 by rw [h3]; decide), if_neg (show ¬ kd p = 2 by rw [h3]; decide), if_pos h3, Int32.add_zero]
  · have n0 : ¬ kd p = 0 := by rw [h4]; decide
    have n1 : ¬ kd p = 1 := by rw [h4]; decide
    have n2 : ¬ kd p = 2 := by rw [h4]; decide
    have n3 : ¬ kd p = 3 := by rw [h4]; decide
    rw [mPX, kPX, if_neg n0, if_neg n0, if_neg n1, if_neg n1, if_pos h4, if_neg n2, if_neg n3, jK1, jK2, if_neg n0, if_neg n0, if_neg n1, hbj, hok, nI_clamp (by omega), nI_clamp (by omega), hx j hj, hx k hk, kdiv, if_neg (by decide)]
theorem jPY_eq {kd ba ot aa bb bm x1 x2 : Nat → Int32} {lt : Int32 → Int32} {p : Nat} (h : jPt kd ba ot aa bb p) (hp : p < 20) (hx : ∀ j, j < p → x2 j = x1 j) (hb : ∀ j, j < 6 → lt (nI j) = bm j) : mPY kd (jK1 kd ba aa) (jK2 kd ot aa bb) (jK3 kd aa bb) (jK4 kd bb) lt x2 p = kPY kd ba ot aa bb bm x1 p := by
  rcases h with ⟨h0, _⟩ | ⟨h1, ⟨j, hj, hbj⟩, _⟩ | ⟨h23, ⟨j, hj, hbj⟩, ⟨k, hk, hok⟩, _, hbb⟩ | ⟨h4, ⟨j, hj, hbj⟩, ⟨k, hk, hok⟩⟩
  · rw [mPY, kPY, if_pos h0, if_pos h0, jK2, if_pos h0]
  · have n0 : ¬ kd p = 0 := by rw [h1]; decide
    rw [mPY, kPY, if_neg n0, if_neg n0, if_pos h1, if_pos h1, jK1, jK3, if_neg n0, if_neg n0, if_pos h1, hbj, nI_clamp (by omega), hx j hj]
  · have n0 : ¬ kd p = 0 := by rcases h23 with h | h <;> rw [h] <;> decide
    have n1 : ¬ kd p = 1 := by rcases h23 with h | h <;> rw [h] <;> decide
    have n4 : ¬ kd p = 4 := by rcases h23 with h | h <;> rw [h] <;> decide
    rw [mPY, kPY, if_neg n0, if_neg n0, if_neg n1, if_neg n1, if_neg n4, jK1, if_neg n0, hbj, nI_clamp (by omega), hx j hj]
    rcases h23 with h2 | h3
    · rw [if_neg (show ¬ kd p = 3 by rw [h2]; decide), if_pos h2, Int32.add_zero]
    · rw [if_pos h3, if_neg (show ¬ kd p = 2 by rw [h3]; decide), if_pos h3, jK2, jK3, jK4, if_neg n0, if_neg n0, if_neg n0, if_neg n1, if_neg n1, if_neg n1, kPart, kdiv, if_neg (jx_ne0 hbb), hok, nI_clamp (by omega), hb k hk]
  · have n0 : ¬ kd p = 0 := by rw [h4]; decide
    have n1 : ¬ kd p = 1 := by rw [h4]; decide
    have n2 : ¬ kd p = 2 := by rw [h4]; decide
    have n3 : ¬ kd p = 3 := by rw [h4]; decide
    rw [mPY, kPY, if_neg n0, if_neg n0, if_neg n1, if_neg n1, if_pos h4, if_neg n2, if_neg n3, jK1, jK2, if_neg n0, if_neg n0, if_neg n1, hbj, hok, nI_clamp (by omega), nI_clamp (by omega), hx j hj, hx k hk, kdiv, if_neg (by decide)]
theorem jX_eq {kd ba ot aa bb bm x1 x2 : Nat → Int32} {lt : Int32 → Int32} {n : Nat} (h : ∀ p, p < n → jPt kd ba ot aa bb p) (hn : n ≤ 20) (hb : ∀ j, j < 6 → lt (nI j) = bm j) : ∀ i, i ≤ n → ∀ p, p < i → mXs kd (jK1 kd ba aa) (jK2 kd ot aa bb) (jK3 kd aa bb) (jK4 kd bb) lt x2 i p = kXs kd ba ot aa bb bm x1 i p
  | 0, _, p, hp => absurd hp (Nat.not_lt_zero _)
  | i + 1, hi, p, hp => by
    have ih := jX_eq (x1 := x1) (x2 := x2) h hn hb i (by omega)
    rw [mXs, kXs]
    unfold upd
    by_cases e : p = i
    · rw [if_pos e, if_pos e]
      exact jPX_eq (h i (by omega)) (by omega) ih hb
    · rw [if_neg e, if_neg e]
      exact ih p (by omega)
theorem jY_eq {kd ba ot aa bb bm x1 x2 : Nat → Int32} {lt : Int32 → Int32} {n : Nat} (h : ∀ p, p < n → jPt kd ba ot aa bb p) (hn : n ≤ 20) (hb : ∀ j, j < 6 → lt (nI j) = bm j) : ∀ i, i ≤ n → ∀ p, p < i → mYs kd (jK1 kd ba aa) (jK2 kd ot aa bb) (jK3 kd aa bb) (jK4 kd bb) lt x2 i p = kYs kd ba ot aa bb bm x1 i p
  | 0, _, p, hp => absurd hp (Nat.not_lt_zero _)
  | i + 1, hi, p, hp => by
    have ih := jY_eq (x1 := x1) (x2 := x2) h hn hb i (by omega)
    rw [mYs, kYs]
    unfold upd
    by_cases e : p = i
    · rw [if_pos e, if_pos e]
      exact jPY_eq (h i (by omega)) (by omega) ih hb
    · rw [if_neg e, if_neg e]
      exact ih p (by omega)
theorem kPart_b {ot aa bb bm : Nat → Int32} {p k : Nat} (hk : k < 6) (ho : ot p = nI k) (ha : (aa p).toInt.natAbs ≤ 20) (hb : 1 ≤ (bb p).toInt) (hm : ∀ j, j < 6 → (bm j).toInt.natAbs ≤ 3050) : (kPart ot aa bb bm p).toInt.natAbs ≤ 61000 := by
  rw [kPart, kdiv, if_neg (jx_ne0 hb), ho, nI_clamp (by omega)]
  have h1 := (jx_mul (hm k hk) ha (by decide)).2
  rw [jx_div (by omega)]
  exact Nat.le_trans (jx_tdiv _ _) h1
theorem jx_2 : (2 : Int32).toInt = 2 := by decide
theorem jx_mid {x y : Int32} {B : Nat} (hB : B ≤ 1000000000) (hx : x.toInt.natAbs ≤ B) (hy : y.toInt.natAbs ≤ B) : (kdiv (x + y) 2).toInt.natAbs ≤ B := by
  have h1 : (x + y).toInt = x.toInt + y.toInt := jx_add (by omega)
  rw [kdiv, if_neg (by decide), jx_div (by omega), jx_2, Int.natAbs_tdiv]
  show (x + y).toInt.natAbs / 2 ≤ B
  omega
theorem jPX_b {kd ba ot aa bb bm x : Nat → Int32} {p : Nat} (h : jPt kd ba ot aa bb p) (hp : p < 20) (hx : ∀ j, j < p → (x j).toInt.natAbs ≤ 61000 * (j + 1)) (hm : ∀ j, j < 6 → (bm j).toInt.natAbs ≤ 3050) : (kPX kd ba ot aa bb bm x p).toInt.natAbs ≤ 61000 * (p + 1) := by
  rcases h with ⟨h0, ha, _⟩ | ⟨h1, ⟨j, hj, hbj⟩, ha, _⟩ | ⟨h23, ⟨j, hj, hbj⟩, ⟨k, hk, hok⟩, ha, hbb⟩ | ⟨h4, ⟨j, hj, hbj⟩, ⟨k, hk, hok⟩⟩
  · rw [kPX, if_pos h0]
    omega
  · have n0 : ¬ kd p = 0 := by rw [h1]; decide
    have hxj := hx j hj
    rw [kPX, if_neg n0, if_pos h1, hbj, nI_clamp (by omega), jx_add (by omega)]
    omega
  · have n0 : ¬ kd p = 0 := by rcases h23 with h | h <;> rw [h] <;> decide
    have n1 : ¬ kd p = 1 := by rcases h23 with h | h <;> rw [h] <;> decide
    have hxj := hx j hj
    have hpb := kPart_b hk hok ha hbb hm
    rw [kPX, if_neg n0, if_neg n1, hbj, nI_clamp (by omega)]
    rcases h23 with h2 | h3
    · rw [if_pos h2, jx_add (by omega)]
      omega
    · rw [if_neg (show ¬ kd p = 2 by rw [h3]; decide), if_pos h3]
      omega
  · have n0 : ¬ kd p = 0 := by rw [h4]; decide
    have n1 : ¬ kd p = 1 := by rw [h4]; decide
    have n2 : ¬ kd p = 2 := by rw [h4]; decide
    have n3 : ¬ kd p = 3 := by rw [h4]; decide
    have hxj := hx j hj
    have hxk := hx k hk
    rw [kPX, if_neg n0, if_neg n1, if_neg n2, if_neg n3, hbj, hok, nI_clamp (by omega), nI_clamp (by omega)]
    exact jx_mid (by omega) (by omega) (by omega)
theorem jPY_b {kd ba ot aa bb bm x : Nat → Int32} {p : Nat} (h : jPt kd ba ot aa bb p) (hp : p < 20) (hx : ∀ j, j < p → (x j).toInt.natAbs ≤ 61000 * (j + 1)) (hm : ∀ j, j < 6 → (bm j).toInt.natAbs ≤ 3050) : (kPY kd ba ot aa bb bm x p).toInt.natAbs ≤ 61000 * (p + 1) := by
  rcases h with ⟨h0, _, ha⟩ | ⟨h1, ⟨j, hj, hbj⟩, _, ha⟩ | ⟨h23, ⟨j, hj, hbj⟩, ⟨k, hk, hok⟩, ha, hbb⟩ | ⟨h4, ⟨j, hj, hbj⟩, ⟨k, hk, hok⟩⟩
  · rw [kPY, if_pos h0]
    omega
  · have n0 : ¬ kd p = 0 := by rw [h1]; decide
    have hxj := hx j hj
    rw [kPY, if_neg n0, if_pos h1, hbj, nI_clamp (by omega), jx_add (by omega)]
    omega
  · have n0 : ¬ kd p = 0 := by rcases h23 with h | h <;> rw [h] <;> decide
    have n1 : ¬ kd p = 1 := by rcases h23 with h | h <;> rw [h] <;> decide
    have hxj := hx j hj
    have hpb := kPart_b hk hok ha hbb hm
    rw [kPY, if_neg n0, if_neg n1, hbj, nI_clamp (by omega)]
    rcases h23 with h2 | h3
    · rw [if_pos h2]
      omega
    · rw [if_neg (show ¬ kd p = 2 by rw [h3]; decide), if_pos h3, jx_add (by omega)]
      omega
  · have n0 : ¬ kd p = 0 := by rw [h4]; decide
    have n1 : ¬ kd p = 1 := by rw [h4]; decide
    have n2 : ¬ kd p = 2 := by rw [h4]; decide
    have n3 : ¬ kd p = 3 := by rw [h4]; decide
    have hxj := hx j hj
    have hxk := hx k hk
    rw [kPY, if_neg n0, if_neg n1, if_neg n2, if_neg n3, hbj, hok, nI_clamp (by omega), nI_clamp (by omega)]
    exact jx_mid (by omega) (by omega) (by omega)
theorem jX_b {kd ba ot aa bb bm x : Nat → Int32} {n : Nat} (h : ∀ p, p < n → jPt kd ba ot aa bb p) (hn : n ≤ 20) (hm : ∀ j, j < 6 → (bm j).toInt.natAbs ≤ 3050) : ∀ i, i ≤ n → ∀ p, p < i → (kXs kd ba ot aa bb bm x i p).toInt.natAbs ≤ 61000 * (p + 1)
  | 0, _, p, hp => absurd hp (Nat.not_lt_zero _)
  | i + 1, hi, p, hp => by
    have ih := jX_b (x := x) h hn hm i (by omega)
    rw [kXs]
    unfold upd
    by_cases e : p = i
    · rw [if_pos e, e]
      exact jPX_b (h i (by omega)) (by omega) ih hm
    · rw [if_neg e]
      exact ih p (by omega)
theorem jY_b {kd ba ot aa bb bm x : Nat → Int32} {n : Nat} (h : ∀ p, p < n → jPt kd ba ot aa bb p) (hn : n ≤ 20) (hm : ∀ j, j < 6 → (bm j).toInt.natAbs ≤ 3050) : ∀ i, i ≤ n → ∀ p, p < i → (kYs kd ba ot aa bb bm x i p).toInt.natAbs ≤ 61000 * (p + 1)
  | 0, _, p, hp => absurd hp (Nat.not_lt_zero _)
  | i + 1, hi, p, hp => by
    have ih := jY_b (x := x) h hn hm i (by omega)
    rw [kYs]
    unfold upd
    by_cases e : p = i
    · rw [if_pos e, e]
      exact jPY_b (h i (by omega)) (by omega) ih hm
    · rw [if_neg e]
      exact ih p (by omega)
