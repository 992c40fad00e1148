def i4 (a b c d : Nat → Nat) : Nat → Nat := fun j => if j % 4 = 0 then a (j / 4) else if j % 4 = 1 then b (j / 4) else if j % 4 = 2 then c (j / 4) else d (j / 4)
theorem i4_0 (a b c d : Nat → Nat) (i : Nat) : i4 a b c d (4 * i) = a i := by
  simp [i4, show 4 * i % 4 = 0 by omega, show 4 * i / 4 = i by omega]
theorem i4_1 (a b c d : Nat → Nat) (i : Nat) : i4 a b c d (4 * i + 1) = b i := by
  simp [i4, show (4 * i + 1) % 4 = 1 by omega, show (4 * i + 1) / 4 = i by omega]
theorem i4_2 (a b c d : Nat → Nat) (i : Nat) : i4 a b c d (4 * i + 2) = c i := by
  simp [i4, show (4 * i + 2) % 4 = 2 by omega, show (4 * i + 2) / 4 = i by omega]
theorem i4_3 (a b c d : Nat → Nat) (i : Nat) : i4 a b c d (4 * i + 3) = d i := by
  simp [i4, show (4 * i + 3) % 4 = 3 by omega, show (4 * i + 3) / 4 = i by omega]
theorem i4_u0 (a b c d : Nat → Nat) (t v : Nat) : updN (i4 a b c d) (4 * t) v = i4 (updN a t v) b c d := by
  funext j
  simp only [updN, i4]
  by_cases h : j = 4 * t
  · rw [if_pos h, if_pos (by omega), if_pos (by omega)]
  · rw [if_neg h]
    by_cases h0 : j % 4 = 0
    · rw [if_pos h0, if_pos h0, if_neg (by omega)]
    · rw [if_neg h0, if_neg h0]
theorem i4_u1 (a b c d : Nat → Nat) (t v : Nat) : updN (i4 a b c d) (4 * t + 1) v = i4 a (updN b t v) c d := by
  funext j
  simp only [updN, i4]
  by_cases h : j = 4 * t + 1
  · rw [if_pos h, if_neg (by omega), if_pos (by omega), if_pos (by omega)]
  · rw [if_neg h]
    by_cases h0 : j % 4 = 0
    · rw [if_pos h0, if_pos h0]
    · rw [if_neg h0, if_neg h0]
      by_cases h1 : j % 4 = 1
      · rw [if_pos h1, if_pos h1, if_neg (by omega)]
      · rw [if_neg h1, if_neg h1]
theorem i4_u2 (a b c d : Nat → Nat) (t v : Nat) : updN (i4 a b c d) (4 * t + 2) v = i4 a b (updN c t v) d := by
  funext j
  simp only [updN, i4]
  by_cases h : j = 4 * t + 2
  · rw [if_pos h, if_neg (by omega), if_neg (by omega), if_pos (by omega), if_pos (by omega)]
  · rw [if_neg h]
    by_cases h0 : j % 4 = 0
    · rw [if_pos h0, if_pos h0]
    · rw [if_neg h0, if_neg h0]
      by_cases h1 : j % 4 = 1
      · rw [if_pos h1, if_pos h1]
      · rw [if_neg h1, if_neg h1]
        by_cases h2 : j % 4 = 2
        · rw [if_pos h2, if_pos h2, if_neg (by omega)]
        · rw [if_neg h2, if_neg h2]
theorem i4_u3 (a b c d : Nat → Nat) (t v : Nat) : updN (i4 a b c d) (4 * t + 3) v = i4 a b c (updN d t v) := by
  funext j
  simp only [updN, i4]
  by_cases h : j = 4 * t + 3
  · rw [if_pos h, if_neg (by omega), if_neg (by omega), if_neg (by omega), if_pos (by omega)]
  · rw [if_neg h]
    by_cases h0 : j % 4 = 0
    · rw [if_pos h0, if_pos h0]
    · rw [if_neg h0, if_neg h0]
      by_cases h1 : j % 4 = 1
      · rw [if_pos h1, if_pos h1]
      · rw [if_neg h1, if_neg h1]
        by_cases h2 : j % 4 = 2
        · rw [if_pos h2, if_pos h2]
        · rw [if_neg h2, if_neg h2, if_neg (by omega)]
/-! the reference's rows: five and four numbers by turns -/
def il5 (a b c d e : Nat → Int32) : Nat → Int32 := fun j => if j % 5 = 0 then a (j / 5) else if j % 5 = 1 then b (j / 5) else if j % 5 = 2 then c (j / 5) else if j % 5 = 3 then d (j / 5) else e (j / 5)
theorem il5_0 (a b c d e : Nat → Int32) (i : Nat) : il5 a b c d e (5 * i) = a i := by
  simp only [il5, show 5 * i % 5 = 0 by omega, show 5 * i / 5 = i by omega, if_true]
theorem il5_1 (a b c d e : Nat → Int32) (i : Nat) : il5 a b c d e (5 * i + 1) = b i := by
  simp [il5, show (5 * i + 1) % 5 = 1 by omega, show (5 * i + 1) / 5 = i by omega]
theorem il5_2 (a b c d e : Nat → Int32) (i : Nat) : il5 a b c d e (5 * i + 2) = c i := by
  simp [il5, show (5 * i + 2) % 5 = 2 by omega, show (5 * i + 2) / 5 = i by omega]
theorem il5_3 (a b c d e : Nat → Int32) (i : Nat) : il5 a b c d e (5 * i + 3) = d i := by
  simp [il5, show (5 * i + 3) % 5 = 3 by omega, show (5 * i + 3) / 5 = i by omega]
theorem il5_4 (a b c d e : Nat → Int32) (i : Nat) : il5 a b c d e (5 * i + 4) = e i := by
  simp [il5, show (5 * i + 4) % 5 = 4 by omega, show (5 * i + 4) / 5 = i by omega]
theorem il5_u0 (a b c d e : Nat → Int32) (t : Nat) (v : Int32) : upd (il5 a b c d e) (5 * t) v = il5 (upd a t v) b c d e := by
  funext j
  simp only [upd, il5]
  by_cases h : j = 5 * t
  · rw [if_pos h, if_pos (by omega), if_pos (by omega)]
  · rw [if_neg h]
    by_cases h0 : j % 5 = 0
    · rw [if_pos h0, if_pos h0, if_neg (by omega)]
    · rw [if_neg h0, if_neg h0]
theorem il5_u1 (a b c d e : Nat → Int32) (t : Nat) (v : Int32) : upd (il5 a b c d e) (5 * t + 1) v = il5 a (upd b t v) c d e := by
  funext j
  simp only [upd, il5]
  by_cases h : j = 5 * t + 1
  · rw [if_pos h, if_neg (by omega), if_pos (by omega), if_pos (by omega)]
  · rw [if_neg h]
    by_cases h0 : j % 5 = 0
    · rw [if_pos h0, if_pos h0]
    · rw [if_neg h0, if_neg h0]
      by_cases h1 : j % 5 = 1
      · rw [if_pos h1, if_pos h1, if_neg (by omega)]
      · rw [if_neg h1, if_neg h1]
theorem il5_u2 (a b c d e : Nat → Int32) (t : Nat) (v : Int32) : upd (il5 a b c d e) (5 * t + 2) v = il5 a b (upd c t v) d e := by
  funext j
  simp only [upd, il5]
  by_cases h : j = 5 * t + 2
  · rw [if_pos h, if_neg (by omega), if_neg (by omega), if_pos (by omega), if_pos (by omega)]
  · rw [if_neg h]
    by_cases h0 : j % 5 = 0
    · rw [if_pos h0, if_pos h0]
    · rw [if_neg h0, if_neg h0]
      by_cases h1 : j % 5 = 1
      · rw [if_pos h1, if_pos h1]
      · rw [if_neg h1, if_neg h1]
        by_cases h2 : j % 5 = 2
        · rw [if_pos h2, if_pos h2, if_neg (by omega)]
        · rw [if_neg h2, if_neg h2]
theorem il5_u3 (a b c d e : Nat → Int32) (t : Nat) (v : Int32) : upd (il5 a b c d e) (5 * t + 3) v = il5 a b c (upd d t v) e := by
  funext j
  simp only [upd, il5]
  by_cases h : j = 5 * t + 3
  · rw [if_pos h, if_neg (by omega), if_neg (by omega), if_neg (by omega), if_pos (by omega), if_pos (by omega)]
  · rw [if_neg h]
    by_cases h0 : j % 5 = 0
    · rw [if_pos h0, if_pos h0]
    · rw [if_neg h0, if_neg h0]
      by_cases h1 : j % 5 = 1
      · rw [if_pos h1, if_pos h1]
      · rw [if_neg h1, if_neg h1]
        by_cases h2 : j % 5 = 2
        · rw [if_pos h2, if_pos h2]
        · rw [if_neg h2, if_neg h2]
          by_cases h3 : j % 5 = 3
          · rw [if_pos h3, if_pos h3, if_neg (by omega)]
          · rw [if_neg h3, if_neg h3]
theorem il5_u4 (a b c d e : Nat → Int32) (t : Nat) (v : Int32) : upd (il5 a b c d e) (5 * t + 4) v = il5 a b c d (upd e t v) := by
  funext j
  simp only [upd, il5]
  by_cases h : j = 5 * t + 4
  · rw [if_pos h, if_neg (by omega), if_neg (by omega), if_neg (by omega), if_neg (by omega), if_pos (by omega)]
  · rw [if_neg h]
    by_cases h0 : j % 5 = 0
    · rw [if_pos h0, if_pos h0]
    · rw [if_neg h0, if_neg h0]
      by_cases h1 : j % 5 = 1
      · rw [if_pos h1, if_pos h1]
      · rw [if_neg h1, if_neg h1]
        by_cases h2 : j % 5 = 2
        · rw [if_pos h2, if_pos h2]
        · rw [if_neg h2, if_neg h2]
          by_cases h3 : j % 5 = 3
          · rw [if_pos h3, if_pos h3]
          · rw [if_neg h3, if_neg h3, if_neg (by omega)]
def kLat20 (hd bd ms dy vl hbt : Nat → Int32) (told : Nat) (body measure : Int32) : Int32 := kMean hd bd ms dy vl hbt told body measure (kLast bd ms dy body measure 20000 told)
def kGrow20 (hd bd ms dy vl hbt : Nat → Int32) (told : Nat) (body measure : Int32) : Int32 :=
  if kLast bd ms dy body measure 20000 told = -1 then 0 else if kLast bd ms dy body measure (kLast bd ms dy body measure 20000 told) told = -1 then 0 else kMean hd bd ms dy vl hbt told body measure (kLast bd ms dy body measure 20000 told) - kMean hd bd ms dy vl hbt told body measure (kLast bd ms dy body measure (kLast bd ms dy body measure 20000 told) told)
abbrev mFc (hd bd ms dy : Nat → Int32) (measure sx tx : Int32) (i j : Nat) : Prop := (hd i = sx ∧ hd j = tx ∧ ms i = measure) ∧ (bd j = bd i ∧ ms j = measure) ∧ dy i = dy j
def mFs (hd bd ms dy vl : Nat → Int32) (measure sx tx : Int32) (i : Nat) : Nat → Int32 → Int32
  | 0, a => a
  | j + 1, a => if mFc hd bd ms dy measure sx tx i j then mFs hd bd ms dy vl measure sx tx i j a + (vl i - vl j) else mFs hd bd ms dy vl measure sx tx i j a
def mFn (hd bd ms dy : Nat → Int32) (measure sx tx : Int32) (i : Nat) : Nat → Nat → Nat
  | 0, a => a
  | j + 1, a => if mFc hd bd ms dy measure sx tx i j then mFn hd bd ms dy measure sx tx i j a + 1 else mFn hd bd ms dy measure sx tx i j a
def mFS (hd bd ms dy vl : Nat → Int32) (told : Nat) (measure sx tx : Int32) : Nat → Int32
  | 0 => 0
  | i + 1 => mFs hd bd ms dy vl measure sx tx i told (mFS hd bd ms dy vl told measure sx tx i)
def mFN (hd bd ms dy : Nat → Int32) (told : Nat) (measure sx tx : Int32) : Nat → Nat
  | 0 => 0
  | i + 1 => mFn hd bd ms dy measure sx tx i told (mFN hd bd ms dy told measure sx tx i)
def mFound (hd bd ms dy vl : Nat → Int32) (told : Nat) (measure sx tx : Int32) : Int32 :=
  if nI (mFN hd bd ms dy told measure sx tx told) = 0 then -1001 else mFS hd bd ms dy vl told measure sx tx told / nI (mFN hd bd ms dy told measure sx tx told)
theorem kx_hab2 {h m : Int32} (h1 : vp_in h 4) (h2 : vp_in m 6) : vp_in (6 * h + m) 24 := by
  rw [Int32.mul_comm]
  exact kx_hab h1 h2
theorem h_X6_tell (cI cZ : ClassId) (qM : Nat) (qM1 : Nat) (qM2 : Nat) (qM3 : Nat) (qM4 : Nat) (qM5 : Nat) (qM6 : Nat) (qM7 : Nat) (qM8 : Nat) (qM9 : Nat) (qM10 : Nat) (qM11 : Nat) (qM12 : Nat) (qM13 : Nat) (hd : Nat → Int32) (bd : Nat → Int32) (ms : Nat → Int32) (dy : Nat → Int32) (vl : Nat → Int32) (hbt : Nat → Int32) (k0 : Nat → Int32) (k1 : Nat → Int32) (k2 : Nat → Int32) (k3 : Nat → Int32) (k4 : Nat → Int32) (sn : Nat → Nat) (cor : Nat → Int32) (jn : Nat → Nat) (cu : Nat → Nat) (se : Nat → Nat) (fi : Nat → Nat) (pr : Nat → Nat) (xx : Nat → Int32) (yy : Nat → Int32) (wn : Nat → Nat) (hn : Nat → Nat) (on : Nat → Nat) (be : Nat → Nat) (told : Nat) (pts : Nat) (pcs : Nat) (sms : Nat) (wd : Nat) (ck : Nat) (nc : Nat) (lt : Nat) (en : Nat) (bl : Nat) (bn : Nat) : ∀ u, (((fun u : (Nat → Int32) × (Nat → Int32) × (Nat → Int32) × (Nat → Int32) × (Nat → Int32) × Nat => [(qM, .inr (6, [.int (nI u.2.2.2.2.2), .ref qM1, .ref qM2, .int (nI pts), .ref qM3, .int (nI pcs), .ref qM4, .ref qM5, .int (nI sms), .ref qM6, .int (nI wd), .int (nI ck), .int (nI nc), .ref qM7, .ref qM8, .ref qM9, .ref qM10, .ref qM11, .ref qM12, .ref qM13, .int (nI lt), .int (nI en), .int (nI bl), .int (nI bn)])), (qM1, .inl (cI, 200, .inl (il5 u.1 u.2.1 u.2.2.1 u.2.2.2.1 u.2.2.2.2.1))), (qM2, .inl (cI, 24, .inl hbt)), (qM3, .inl (cI, 100, .inl (il5 k0 k1 k2 k3 k4))), (qM4, .inl (cI, 7, .inl (fun k => nI (sn k)))), (qM5, .inl (cI, 56, .inl cor)), (qM6, .inl (cI, 40, .inl (fun k => nI (jn k)))), (qM7, .inl (cI, 24, .inl (fun k => nI (i4 cu se fi pr k)))), (qM8, .inl (cI, 20, .inl xx)), (qM9, .inl (cI, 20, .inl yy)), (qM10, .inl (cI, 7, .inl (fun k => nI (wn k)))), (qM11, .inl (cI, 7, .inl (fun k => nI (hn k)))), (qM12, .inl (cI, 7, .inl (fun k => nI (on k)))), (qM13, .inl (cI, 7, .inl (fun k => nI (be k))))]) : ((Nat → Int32) × (Nat → Int32) × (Nat → Int32) × (Nat → Int32) × (Nat → Int32) × Nat) → va_W) u).map Prod.fst = ([(qM, .inr (6, [.int (nI told), .ref qM1, .ref qM2, .int (nI pts), .ref qM3, .int (nI pcs), .ref qM4, .ref qM5, .int (nI sms), .ref qM6, .int (nI wd), .int (nI ck), .int (nI nc), .ref qM7, .ref qM8, .ref qM9, .ref qM10, .ref qM11, .ref qM12, .ref qM13, .int (nI lt), .int (nI en), .int (nI bl), .int (nI bn)])), (qM1, .inl (cI, 200, .inl (il5 hd bd ms dy vl))), (qM2, .inl (cI, 24, .inl hbt)), (qM3, .inl (cI, 100, .inl (il5 k0 k1 k2 k3 k4))), (qM4, .inl (cI, 7, .inl (fun k => nI (sn k)))), (qM5, .inl (cI, 56, .inl cor)), (qM6, .inl (cI, 40, .inl (fun k => nI (jn k)))), (qM7, .inl (cI, 24, .inl (fun k => nI (i4 cu se fi pr k)))), (qM8, .inl (cI, 20, .inl xx)), (qM9, .inl (cI, 20, .inl yy)), (qM10, .inl (cI, 7, .inl (fun k => nI (wn k)))), (qM11, .inl (cI, 7, .inl (fun k => nI (hn k)))), (qM12, .inl (cI, 7, .inl (fun k => nI (on k)))), (qM13, .inl (cI, 7, .inl (fun k => nI (be k))))] : va_W).map Prod.fst := fun _ => rfl
abbrev rm_X6_tell : Room := { frames := 2, cells := 0, slots := 0, locals := 42 }
set_option maxHeartbeats 4000000 in
set_option maxRecDepth 100000 in
theorem c_X6_tell (l : Launch) (G : va_G) (cI cZ : ClassId) (qM : Nat) (qM1 : Nat) (qM2 : Nat) (qM3 : Nat) (qM4 : Nat) (qM5 : Nat) (qM6 : Nat) (qM7 : Nat) (qM8 : Nat) (qM9 : Nat) (qM10 : Nat) (qM11 : Nat) (qM12 : Nat) (qM13 : Nat) (hd : Nat → Int32) (bd : Nat → Int32) (ms : Nat → Int32) (dy : Nat → Int32) (vl : Nat → Int32) (hbt : Nat → Int32) (k0 : Nat → Int32) (k1 : Nat → Int32) (k2 : Nat → Int32) (k3 : Nat → Int32) (k4 : Nat → Int32) (sn : Nat → Nat) (cor : Nat → Int32) (jn : Nat → Nat) (cu : Nat → Nat) (se : Nat → Nat) (fi : Nat → Nat) (pr : Nat → Nat) (xx : Nat → Int32) (yy : Nat → Int32) (wn : Nat → Nat) (hn : Nat → Nat) (on : Nat → Nat) (be : Nat → Nat) (told : Nat) (pts : Nat) (pcs : Nat) (sms : Nat) (wd : Nat) (ck : Nat) (nc : Nat) (lt : Nat) (en : Nat) (bl : Nat) (bn : Nat) (sz : Nat) (hand : Int32) (body : Int32) (measure : Int32) (day : Int32) (v : Int32) (hTo : told ≤ 40) : Met l yX6_tell wsX6_tell rm_X6_tell (kx_Pw G cI cZ [(qM, .inr (6, [.int (nI told), .ref qM1, .ref qM2, .int (nI pts), .ref qM3, .int (nI pcs), .ref qM4, .ref qM5, .int (nI sms), .ref qM6, .int (nI wd), .int (nI ck), .int (nI nc), .ref qM7, .ref qM8, .ref qM9, .ref qM10, .ref qM11, .ref qM12, .ref qM13, .int (nI lt), .int (nI en), .int (nI bl), .int (nI bn)])), (qM1, .inl (cI, 200, .inl (il5 hd bd ms dy vl))), (qM2, .inl (cI, 24, .inl hbt)), (qM3, .inl (cI, 100, .inl (il5 k0 k1 k2 k3 k4))), (qM4, .inl (cI, 7, .inl (fun k => nI (sn k)))), (qM5, .inl (cI, 56, .inl cor)), (qM6, .inl (cI, 40, .inl (fun k => nI (jn k)))), (qM7, .inl (cI, 24, .inl (fun k => nI (i4 cu se fi pr k)))), (qM8, .inl (cI, 20, .inl xx)), (qM9, .inl (cI, 20, .inl yy)), (qM10, .inl (cI, 7, .inl (fun k => nI (wn k)))), (qM11, .inl (cI, 7, .inl (fun k => nI (hn k)))), (qM12, .inl (cI, 7, .inl (fun k => nI (on k)))), (qM13, .inl (cI, 7, .inl (fun k => nI (be k))))] sz [.ref qM, .int hand, .int body, .int measure, .int day, .int v]) (va_Qi (fun (r : Int32) (u : (Nat → Int32) × (Nat → Int32) × (Nat → Int32) × (Nat → Int32) × (Nat → Int32) × Nat) => if (0 ≤ hand ∧ hand ≤ 3) ∧ (0 ≤ body ∧ body ≤ 5) ∧ (0 ≤ measure ∧ measure ≤ 5) ∧ (0 ≤ day ∧ day ≤ 10000) ∧ (0 ≤ v ∧ v ≤ 3000) then (if told < 40 then r = nI (told + 1) ∧ u.1 = upd hd told hand ∧ u.2.1 = upd bd told body ∧ u.2.2.1 = upd ms told measure ∧ u.2.2.2.1 = upd dy told day ∧ u.2.2.2.2.1 = upd vl told v ∧ u.2.2.2.2.2 = told + 1 else r = -4 ∧ u.1 = hd ∧ u.2.1 = bd ∧ u.2.2.1 = ms ∧ u.2.2.2.1 = dy ∧ u.2.2.2.2.1 = vl ∧ u.2.2.2.2.2 = told) else (r = -2 ∧ u.1 = hd ∧ u.2.1 = bd ∧ u.2.2.1 = ms ∧ u.2.2.2.1 = dy ∧ u.2.2.2.2.1 = vl ∧ u.2.2.2.2.2 = told)) (fun u t => va_P G vwCl ((fun u : (Nat → Int32) × (Nat → Int32) × (Nat → Int32) × (Nat → Int32) × (Nat → Int32) × Nat => [(qM, .inr (6, [.int (nI u.2.2.2.2.2), .ref qM1, .ref qM2, .int (nI pts), .ref qM3, .int (nI pcs), .ref qM4, .ref qM5, .int (nI sms), .ref qM6, .int (nI wd), .int (nI ck), .int (nI nc), .ref qM7, .ref qM8, .ref qM9, .ref qM10, .ref qM11, .ref qM12, .ref qM13, .int (nI lt), .int (nI en), .int (nI bl), .int (nI bn)])), (qM1, .inl (cI, 200, .inl (il5 u.1 u.2.1 u.2.2.1 u.2.2.2.1 u.2.2.2.2.1))), (qM2, .inl (cI, 24, .inl hbt)), (qM3, .inl (cI, 100, .inl (il5 k0 k1 k2 k3 k4))), (qM4, .inl (cI, 7, .inl (fun k => nI (sn k)))), (qM5, .inl (cI, 56, .inl cor)), (qM6, .inl (cI, 40, .inl (fun k => nI (jn k)))), (qM7, .inl (cI, 24, .inl (fun k => nI (i4 cu se fi pr k)))), (qM8, .inl (cI, 20, .inl xx)), (qM9, .inl (cI, 20, .inl yy)), (qM10, .inl (cI, 7, .inl (fun k => nI (wn k)))), (qM11, .inl (cI, 7, .inl (fun k => nI (hn k)))), (qM12, .inl (cI, 7, .inl (fun k => nI (on k)))), (qM13, .inl (cI, 7, .inl (fun k => nI (be k))))]) u) t.heap) (va_A [(qM, .inr (6, [.int (nI told), .ref qM1, .ref qM2, .int (nI pts), .ref qM3, .int (nI pcs), .ref qM4, .ref qM5, .int (nI sms), .ref qM6, .int (nI wd), .int (nI ck), .int (nI nc), .ref qM7, .ref qM8, .ref qM9, .ref qM10, .ref qM11, .ref qM12, .ref qM13, .int (nI lt), .int (nI en), .int (nI bl), .int (nI bn)])), (qM1, .inl (cI, 200, .inl (il5 hd bd ms dy vl))), (qM2, .inl (cI, 24, .inl hbt)), (qM3, .inl (cI, 100, .inl (il5 k0 k1 k2 k3 k4))), (qM4, .inl (cI, 7, .inl (fun k => nI (sn k)))), (qM5, .inl (cI, 56, .inl cor)), (qM6, .inl (cI, 40, .inl (fun k => nI (jn k)))), (qM7, .inl (cI, 24, .inl (fun k => nI (i4 cu se fi pr k)))), (qM8, .inl (cI, 20, .inl xx)), (qM9, .inl (cI, 20, .inl yy)), (qM10, .inl (cI, 7, .inl (fun k => nI (wn k)))), (qM11, .inl (cI, 7, .inl (fun k => nI (hn k)))), (qM12, .inl (cI, 7, .inl (fun k => nI (on k)))), (qM13, .inl (cI, 7, .inl (fun k => nI (be k))))] sz)) 0 0 (va_A [(qM, .inr (6, [.int (nI told), .ref qM1, .ref qM2, .int (nI pts), .ref qM3, .int (nI pcs), .ref qM4, .ref qM5, .int (nI sms), .ref qM6, .int (nI wd), .int (nI ck), .int (nI nc), .ref qM7, .ref qM8, .ref qM9, .ref qM10, .ref qM11, .ref qM12, .ref qM13, .int (nI lt), .int (nI en), .int (nI bl), .int (nI bn)])), (qM1, .inl (cI, 200, .inl (il5 hd bd ms dy vl))), (qM2, .inl (cI, 24, .inl hbt)), (qM3, .inl (cI, 100, .inl (il5 k0 k1 k2 k3 k4))), (qM4, .inl (cI, 7, .inl (fun k => nI (sn k)))), (qM5, .inl (cI, 56, .inl cor)), (qM6, .inl (cI, 40, .inl (fun k => nI (jn k)))), (qM7, .inl (cI, 24, .inl (fun k => nI (i4 cu se fi pr k)))), (qM8, .inl (cI, 20, .inl xx)), (qM9, .inl (cI, 20, .inl yy)), (qM10, .inl (cI, 7, .inl (fun k => nI (wn k)))), (qM11, .inl (cI, 7, .inl (fun k => nI (hn k)))), (qM12, .inl (cI, 7, .inl (fun k => nI (on k)))), (qM13, .inl (cI, 7, .inl (fun k => nI (be k))))] sz) := by
  refine Met.ofW (cc := cX6_tell) (maxL := 7) (ret := (some .int)) (by decide) rfl ?_
  intro p e s m args below meth c s₁ B hml hv
  obtain ⟨rfl, hsz, hP, hD0, hK⟩ := hv
  have hx := B.exec
  have hb := B.bytes
  have hr := B.returns
  have hts := atoms_spec (ws := wsX6_tell) B.pre
  have hown : s.vm.findClass RX6 = some m.cls := findClass_of_methodNamed B.named
  have hlocks := B.notSynchronized
  subst hsz
  have hD := hD0.self (sz := s.heap.size)
  generalize hAe : va_A [(qM, .inr (6, [.int (nI told), .ref qM1, .ref qM2, .int (nI pts), .ref qM3, .int (nI pcs), .ref qM4, .ref qM5, .int (nI sms), .ref qM6, .int (nI wd), .int (nI ck), .int (nI nc), .ref qM7, .ref qM8, .ref qM9, .ref qM10, .ref qM11, .ref qM12, .ref qM13, .int (nI lt), .int (nI en), .int (nI bl), .int (nI bn)])), (qM1, .inl (cI, 200, .inl (il5 hd bd ms dy vl))), (qM2, .inl (cI, 24, .inl hbt)), (qM3, .inl (cI, 100, .inl (il5 k0 k1 k2 k3 k4))), (qM4, .inl (cI, 7, .inl (fun k => nI (sn k)))), (qM5, .inl (cI, 56, .inl cor)), (qM6, .inl (cI, 40, .inl (fun k => nI (jn k)))), (qM7, .inl (cI, 24, .inl (fun k => nI (i4 cu se fi pr k)))), (qM8, .inl (cI, 20, .inl xx)), (qM9, .inl (cI, 20, .inl yy)), (qM10, .inl (cI, 7, .inl (fun k => nI (wn k)))), (qM11, .inl (cI, 7, .inl (fun k => nI (hn k)))), (qM12, .inl (cI, 7, .inl (fun k => nI (on k)))), (qM13, .inl (cI, 7, .inl (fun k => nI (be k))))] s.heap.size = A at hD ⊢
  have hA : ∀ q : Nat, s.heap.size ≤ q → A q := fun q h => by rw [← hAe]; exact Or.inr h
  have hS : va_S A s.heap s.heap [] := va_S.rf
  have hl := lv_entry ([.ref qM, .int hand, .int body, .int measure, .int day, .int v]) (n := 7) (Nat.le_of_ble_eq_true rfl)
  rw [lg_entry_eq]
  generalize (lg_sl ([.ref qM, .int hand, .int body, .int measure, .int day, .int v]) ++ List.replicate (7 - (lg_sl ([.ref qM, .int hand, .int body, .int measure, .int day, .int v])).length) Slot.unset).toArray = ls at hl ⊢
  have hl : lv_has ls 7 [(0, .ref qM), (1, .int hand), (2, .int body), (3, .int measure), (4, .int day), (5, .int v)] := hl
  refine lv_iload_n hx hb dX6_tell_0 rfl (lv_at hl 1 rfl) ?_
  refine kx_ri (va_runS (As := [.int hand]) (rest := []) ⟨hx, hb, hml, hown, hts⟩ (c_X6_isHand l hand) (va_cwS 1 hts gX6_tell_X6_isHand rfl rfl rfl (by decide +kernel) ⟨(Nat.le_of_ble_eq_true rfl), (Nat.le_of_ble_eq_true rfl)⟩) kx_preS rfl rfl hl.1 rfl (lv_room (Nat.le_of_ble_eq_true rfl)) dX6_tell_1 ⟨Nat.zero_le _, Nat.zero_le _⟩) ?_
  refine kx_ifeqB hx hb (0 ≤ hand ∧ hand ≤ 3) (tgt := 45) dX6_tell_4 (by decide) (fun c_1 => ?_) (fun c_1 => ?_)
  · skip
    refine lv_bipush (v := (-2)) hx hb dX6_tell_45 (by decide) ?_
    exact W.iret (v := (-2)) hx hb hr (fun t ht hW => ⟨⟨(-2), (hd, bd, ms, dy, vl, told), rfl, by show ite _ _ _; rw [if_neg (fun h => by obtain ⟨h1, h2, h3, h4, h5⟩ := h; first | exact absurd (by assumption) c_1 | contradiction)]; exact ⟨rfl, rfl, rfl, rfl, rfl, rfl, rfl⟩, by (show va_P G vwCl _ t.heap; rw [ht]; exact hP)⟩, hS.F ht⟩) hS.2.2 dX6_tell_47 hlocks
  · skip
    refine lv_iload_n hx hb dX6_tell_7 rfl (lv_at hl 2 rfl) ?_
    refine kx_ri (va_runS (As := [.int body]) (rest := []) ⟨hx, hb, hml, hown, hts⟩ (c_X6_isBody l body) (va_cwS 1 hts gX6_tell_X6_isBody rfl rfl rfl (by decide +kernel) ⟨(Nat.le_of_ble_eq_true rfl), (Nat.le_of_ble_eq_true rfl)⟩) kx_preS rfl rfl hl.1 rfl (lv_room (Nat.le_of_ble_eq_true rfl)) dX6_tell_8 ⟨Nat.zero_le _, Nat.zero_le _⟩) ?_
    refine kx_ifeqB hx hb (0 ≤ body ∧ body ≤ 5) (tgt := 45) dX6_tell_11 (by decide) (fun c_2 => ?_) (fun c_2 => ?_)
    · skip
      refine lv_bipush (v := (-2)) hx hb dX6_tell_45 (by decide) ?_
      exact W.iret (v := (-2)) hx hb hr (fun t ht hW => ⟨⟨(-2), (hd, bd, ms, dy, vl, told), rfl, by show ite _ _ _; rw [if_neg (fun h => by obtain ⟨h1, h2, h3, h4, h5⟩ := h; first | exact absurd (by assumption) c_2 | contradiction)]; exact ⟨rfl, rfl, rfl, rfl, rfl, rfl, rfl⟩, by (show va_P G vwCl _ t.heap; rw [ht]; exact hP)⟩, hS.F ht⟩) hS.2.2 dX6_tell_47 hlocks
    · skip
      refine lv_iload_n hx hb dX6_tell_14 rfl (lv_at hl 3 rfl) ?_
      refine kx_ri (va_runS (As := [.int measure]) (rest := []) ⟨hx, hb, hml, hown, hts⟩ (c_X6_isBody l measure) (va_cwS 1 hts gX6_tell_X6_isBody rfl rfl rfl (by decide +kernel) ⟨(Nat.le_of_ble_eq_true rfl), (Nat.le_of_ble_eq_true rfl)⟩) kx_preS rfl rfl hl.1 rfl (lv_room (Nat.le_of_ble_eq_true rfl)) dX6_tell_15 ⟨Nat.zero_le _, Nat.zero_le _⟩) ?_
      refine kx_ifeqB hx hb (0 ≤ measure ∧ measure ≤ 5) (tgt := 45) dX6_tell_18 (by decide) (fun c_3 => ?_) (fun c_3 => ?_)
      · skip
        refine lv_bipush (v := (-2)) hx hb dX6_tell_45 (by decide) ?_
        exact W.iret (v := (-2)) hx hb hr (fun t ht hW => ⟨⟨(-2), (hd, bd, ms, dy, vl, told), rfl, by show ite _ _ _; rw [if_neg (fun h => by obtain ⟨h1, h2, h3, h4, h5⟩ := h; first | exact absurd (by assumption) c_3 | contradiction)]; exact ⟨rfl, rfl, rfl, rfl, rfl, rfl, rfl⟩, by (show va_P G vwCl _ t.heap; rw [ht]; exact hP)⟩, hS.F ht⟩) hS.2.2 dX6_tell_47 hlocks
      · skip
        refine lv_iload hx hb dX6_tell_21 (lv_at hl 4 rfl) ?_
        refine lv_iconst (v := 0) hx hb dX6_tell_23 (by decide) ?_
        refine lv_sipush (v := 10000) hx hb dX6_tell_24 (by decide) ?_
        refine kx_ri (va_runS (As := [.int day, .int 0, .int 10000]) (rest := []) ⟨hx, hb, hml, hown, hts⟩ (c_X6_in l day 0 10000) (va_cwS 3 hts gX6_tell_X6_in rfl rfl rfl (by decide +kernel) ⟨(Nat.le_of_ble_eq_true rfl), (Nat.le_of_ble_eq_true rfl)⟩) kx_preS rfl rfl hl.1 rfl (lv_room (Nat.le_of_ble_eq_true rfl)) dX6_tell_27 ⟨Nat.zero_le _, Nat.zero_le _⟩) ?_
        refine kx_ifeqB hx hb (0 ≤ day ∧ day ≤ 10000) (tgt := 45) dX6_tell_30 (by decide) (fun c_4 => ?_) (fun c_4 => ?_)
        · skip
          refine lv_bipush (v := (-2)) hx hb dX6_tell_45 (by decide) ?_
          exact W.iret (v := (-2)) hx hb hr (fun t ht hW => ⟨⟨(-2), (hd, bd, ms, dy, vl, told), rfl, by show ite _ _ _; rw [if_neg (fun h => by obtain ⟨h1, h2, h3, h4, h5⟩ := h; first | exact absurd (by assumption) c_4 | contradiction)]; exact ⟨rfl, rfl, rfl, rfl, rfl, rfl, rfl⟩, by (show va_P G vwCl _ t.heap; rw [ht]; exact hP)⟩, hS.F ht⟩) hS.2.2 dX6_tell_47 hlocks
        · skip
          refine lv_iload hx hb dX6_tell_33 (lv_at hl 5 rfl) ?_
          refine lv_iconst (v := 0) hx hb dX6_tell_35 (by decide) ?_
          refine lv_sipush (v := 3000) hx hb dX6_tell_36 (by decide) ?_
          refine kx_ri (va_runS (As := [.int v, .int 0, .int 3000]) (rest := []) ⟨hx, hb, hml, hown, hts⟩ (c_X6_in l v 0 3000) (va_cwS 3 hts gX6_tell_X6_in rfl rfl rfl (by decide +kernel) ⟨(Nat.le_of_ble_eq_true rfl), (Nat.le_of_ble_eq_true rfl)⟩) kx_preS rfl rfl hl.1 rfl (lv_room (Nat.le_of_ble_eq_true rfl)) dX6_tell_39 ⟨Nat.zero_le _, Nat.zero_le _⟩) ?_
          refine kx_ifneB hx hb (0 ≤ v ∧ v ≤ 3000) (tgt := 48) dX6_tell_42 (by decide) (fun c_5 => ?_) (fun c_5 => ?_)
          · skip
            refine lv_aload_n hx hb dX6_tell_48 rfl (lv_at hl 0 rfl) ?_
            refine va_get (D := G) (ci := 6) (v := .int (nI told)) (C := RX6) (T := TX6) (N := 24) hx hb hts (fun _ h => List.mem_cons_of_mem _ (List.mem_append_right _ h)) hown hK.1 hP 0 rfl rfl 0 (by decide) (hts (.fieldLink RX6 67 "TailorHouseModel" "tellings" "I") (List.mem_of_getElem? (i := 1) rfl)) (fun _ h9 => h9) rfl dX6_tell_49 ?_
            refine lv_bipush (v := 40) hx hb dX6_tell_52 (by decide) ?_
            refine kx_neN hx hb told 40 (by omega) (by omega) (tgt := 60) dX6_tell_54 (by decide) (fun c_6 => ?_) (fun c_6 => ?_)
            · skip
              refine lv_iconst (v := 5) hx hb dX6_tell_60 (by decide) ?_
              refine lv_aload_n hx hb dX6_tell_61 rfl (lv_at hl 0 rfl) ?_
              refine va_get (D := G) (ci := 6) (v := .int (nI told)) (C := RX6) (T := TX6) (N := 24) hx hb hts (fun _ h => List.mem_cons_of_mem _ (List.mem_append_right _ h)) hown hK.1 hP 0 rfl rfl 0 (by decide) (hts (.fieldLink RX6 67 "TailorHouseModel" "tellings" "I") (List.mem_of_getElem? (i := 1) rfl)) (fun _ h9 => h9) rfl dX6_tell_62 ?_
              refine kx_imulN hx hb 5 told dX6_tell_65 ?_
              refine lv_istore (lv' := [(6, .int (nI (5 * told))), (0, .ref qM), (1, .int hand), (2, .int body), (3, .int measure), (4, .int day), (5, .int v)]) hx hb dX6_tell_66 hl (by decide) rfl (fun ls hl => ?_)
              refine lv_aload_n hx hb dX6_tell_68 rfl (lv_at hl 1 rfl) ?_
              refine va_get (D := G) (ci := 6) (v := .ref qM1) (C := RX6) (T := TX6) (N := 24) hx hb hts (fun _ h => List.mem_cons_of_mem _ (List.mem_append_right _ h)) hown hK.1 hP 0 rfl rfl 1 (by decide) (hts (.fieldLink RX6 7 "TailorHouseModel" "telling" "[I") (List.mem_of_getElem? (i := 2) rfl)) (fun _ h9 => h9) rfl dX6_tell_69 ?_
              refine lv_iload hx hb dX6_tell_72 (lv_at hl 0 rfl) ?_
              refine lv_iload_n hx hb dX6_tell_74 rfl (lv_at hl 2 rfl) ?_
              refine kx_iastN hx hb hK.1 hP hD hS 1 rfl rfl (5 * told) (by omega) (by decide) dX6_tell_75 (fun H locs hP hD hS => ?_)
              have hP : va_P G vwCl [(qM, .inr (6, [.int (nI told), .ref qM1, .ref qM2, .int (nI pts), .ref qM3, .int (nI pcs), .ref qM4, .ref qM5, .int (nI sms), .ref qM6, .int (nI wd), .int (nI ck), .int (nI nc), .ref qM7, .ref qM8, .ref qM9, .ref qM10, .ref qM11, .ref qM12, .ref qM13, .int (nI lt), .int (nI en), .int (nI bl), .int (nI bn)])), (qM1, .inl (cI, 200, .inl (upd (il5 hd bd ms dy vl) (5 * told) hand))), (qM2, .inl (cI, 24, .inl hbt)), (qM3, .inl (cI, 100, .inl (il5 k0 k1 k2 k3 k4))), (qM4, .inl (cI, 7, .inl (fun k => nI (sn k)))), (qM5, .inl (cI, 56, .inl cor)), (qM6, .inl (cI, 40, .inl (fun k => nI (jn k)))), (qM7, .inl (cI, 24, .inl (fun k => nI (i4 cu se fi pr k)))), (qM8, .inl (cI, 20, .inl xx)), (qM9, .inl (cI, 20, .inl yy)), (qM10, .inl (cI, 7, .inl (fun k => nI (wn k)))), (qM11, .inl (cI, 7, .inl (fun k => nI (hn k)))), (qM12, .inl (cI, 7, .inl (fun k => nI (on k)))), (qM13, .inl (cI, 7, .inl (fun k => nI (be k))))] H := hP
              have hD : va_D A [(qM, .inr (6, [.int (nI told), .ref qM1, .ref qM2, .int (nI pts), .ref qM3, .int (nI pcs), .ref qM4, .ref qM5, .int (nI sms), .ref qM6, .int (nI wd), .int (nI ck), .int (nI nc), .ref qM7, .ref qM8, .ref qM9, .ref qM10, .ref qM11, .ref qM12, .ref qM13, .int (nI lt), .int (nI en), .int (nI bl), .int (nI bn)])), (qM1, .inl (cI, 200, .inl (upd (il5 hd bd ms dy vl) (5 * told) hand))), (qM2, .inl (cI, 24, .inl hbt)), (qM3, .inl (cI, 100, .inl (il5 k0 k1 k2 k3 k4))), (qM4, .inl (cI, 7, .inl (fun k => nI (sn k)))), (qM5, .inl (cI, 56, .inl cor)), (qM6, .inl (cI, 40, .inl (fun k => nI (jn k)))), (qM7, .inl (cI, 24, .inl (fun k => nI (i4 cu se fi pr k)))), (qM8, .inl (cI, 20, .inl xx)), (qM9, .inl (cI, 20, .inl yy)), (qM10, .inl (cI, 7, .inl (fun k => nI (wn k)))), (qM11, .inl (cI, 7, .inl (fun k => nI (hn k)))), (qM12, .inl (cI, 7, .inl (fun k => nI (on k)))), (qM13, .inl (cI, 7, .inl (fun k => nI (be k))))] := hD
              rw [il5_u0] at hP hD
              have hP : va_P G vwCl [(qM, .inr (6, [.int (nI told), .ref qM1, .ref qM2, .int (nI pts), .ref qM3, .int (nI pcs), .ref qM4, .ref qM5, .int (nI sms), .ref qM6, .int (nI wd), .int (nI ck), .int (nI nc), .ref qM7, .ref qM8, .ref qM9, .ref qM10, .ref qM11, .ref qM12, .ref qM13, .int (nI lt), .int (nI en), .int (nI bl), .int (nI bn)])), (qM1, .inl (cI, 200, .inl (il5 (upd hd told hand) bd ms dy vl))), (qM2, .inl (cI, 24, .inl hbt)), (qM3, .inl (cI, 100, .inl (il5 k0 k1 k2 k3 k4))), (qM4, .inl (cI, 7, .inl (fun k => nI (sn k)))), (qM5, .inl (cI, 56, .inl cor)), (qM6, .inl (cI, 40, .inl (fun k => nI (jn k)))), (qM7, .inl (cI, 24, .inl (fun k => nI (i4 cu se fi pr k)))), (qM8, .inl (cI, 20, .inl xx)), (qM9, .inl (cI, 20, .inl yy)), (qM10, .inl (cI, 7, .inl (fun k => nI (wn k)))), (qM11, .inl (cI, 7, .inl (fun k => nI (hn k)))), (qM12, .inl (cI, 7, .inl (fun k => nI (on k)))), (qM13, .inl (cI, 7, .inl (fun k => nI (be k))))] H := hP
              have hD : va_D A [(qM, .inr (6, [.int (nI told), .ref qM1, .ref qM2, .int (nI pts), .ref qM3, .int (nI pcs), .ref qM4, .ref qM5, .int (nI sms), .ref qM6, .int (nI wd), .int (nI ck), .int (nI nc), .ref qM7, .ref qM8, .ref qM9, .ref qM10, .ref qM11, .ref qM12, .ref qM13, .int (nI lt), .int (nI en), .int (nI bl), .int (nI bn)])), (qM1, .inl (cI, 200, .inl (il5 (upd hd told hand) bd ms dy vl))), (qM2, .inl (cI, 24, .inl hbt)), (qM3, .inl (cI, 100, .inl (il5 k0 k1 k2 k3 k4))), (qM4, .inl (cI, 7, .inl (fun k => nI (sn k)))), (qM5, .inl (cI, 56, .inl cor)), (qM6, .inl (cI, 40, .inl (fun k => nI (jn k)))), (qM7, .inl (cI, 24, .inl (fun k => nI (i4 cu se fi pr k)))), (qM8, .inl (cI, 20, .inl xx)), (qM9, .inl (cI, 20, .inl yy)), (qM10, .inl (cI, 7, .inl (fun k => nI (wn k)))), (qM11, .inl (cI, 7, .inl (fun k => nI (hn k)))), (qM12, .inl (cI, 7, .inl (fun k => nI (on k)))), (qM13, .inl (cI, 7, .inl (fun k => nI (be k))))] := hD
              refine lv_aload_n hx hb dX6_tell_76 rfl (lv_at hl 1 rfl) ?_
              refine va_get (D := G) (ci := 6) (v := .ref qM1) (C := RX6) (T := TX6) (N := 24) hx hb hts (fun _ h => List.mem_cons_of_mem _ (List.mem_append_right _ h)) hown hK.1 hP 0 rfl rfl 1 (by decide) (hts (.fieldLink RX6 7 "TailorHouseModel" "telling" "[I") (List.mem_of_getElem? (i := 2) rfl)) (fun _ h9 => h9) rfl dX6_tell_77 ?_
              refine lv_iload hx hb dX6_tell_80 (lv_at hl 0 rfl) ?_
              refine lv_iconst (v := 1) hx hb dX6_tell_82 (by decide) ?_
              refine kx_iaddN hx hb (5 * told) 1 dX6_tell_83 ?_
              refine lv_iload_n hx hb dX6_tell_84 rfl (lv_at hl 3 rfl) ?_
              refine kx_iastN hx hb hK.1 hP hD hS 1 rfl rfl ((5 * told) + 1) (by omega) (by decide) dX6_tell_85 (fun H locs hP hD hS => ?_)
              have hP : va_P G vwCl [(qM, .inr (6, [.int (nI told), .ref qM1, .ref qM2, .int (nI pts), .ref qM3, .int (nI pcs), .ref qM4, .ref qM5, .int (nI sms), .ref qM6, .int (nI wd), .int (nI ck), .int (nI nc), .ref qM7, .ref qM8, .ref qM9, .ref qM10, .ref qM11, .ref qM12, .ref qM13, .int (nI lt), .int (nI en), .int (nI bl), .int (nI bn)])), (qM1, .inl (cI, 200, .inl (upd (il5 (upd hd told hand) bd ms dy vl) ((5 * told) + 1) body))), (qM2, .inl (cI, 24, .inl hbt)), (qM3, .inl (cI, 100, .inl (il5 k0 k1 k2 k3 k4))), (qM4, .inl (cI, 7, .inl (fun k => nI (sn k)))), (qM5, .inl (cI, 56, .inl cor)), (qM6, .inl (cI, 40, .inl (fun k => nI (jn k)))), (qM7, .inl (cI, 24, .inl (fun k => nI (i4 cu se fi pr k)))), (qM8, .inl (cI, 20, .inl xx)), (qM9, .inl (cI, 20, .inl yy)), (qM10, .inl (cI, 7, .inl (fun k => nI (wn k)))), (qM11, .inl (cI, 7, .inl (fun k => nI (hn k)))), (qM12, .inl (cI, 7, .inl (fun k => nI (on k)))), (qM13, .inl (cI, 7, .inl (fun k => nI (be k))))] H := hP
              have hD : va_D A [(qM, .inr (6, [.int (nI told), .ref qM1, .ref qM2, .int (nI pts), .ref qM3, .int (nI pcs), .ref qM4, .ref qM5, .int (nI sms), .ref qM6, .int (nI wd), .int (nI ck), .int (nI nc), .ref qM7, .ref qM8, .ref qM9, .ref qM10, .ref qM11, .ref qM12, .ref qM13, .int (nI lt), .int (nI en), .int (nI bl), .int (nI bn)])), (qM1, .inl (cI, 200, .inl (upd (il5 (upd hd told hand) bd ms dy vl) ((5 * told) + 1) body))), (qM2, .inl (cI, 24, .inl hbt)), (qM3, .inl (cI, 100, .inl (il5 k0 k1 k2 k3 k4))), (qM4, .inl (cI, 7, .inl (fun k => nI (sn k)))), (qM5, .inl (cI, 56, .inl cor)), (qM6, .inl (cI, 40, .inl (fun k => nI (jn k)))), (qM7, .inl (cI, 24, .inl (fun k => nI (i4 cu se fi pr k)))), (qM8, .inl (cI, 20, .inl xx)), (qM9, .inl (cI, 20, .inl yy)), (qM10, .inl (cI, 7, .inl (fun k => nI (wn k)))), (qM11, .inl (cI, 7, .inl (fun k => nI (hn k)))), (qM12, .inl (cI, 7, .inl (fun k => nI (on k)))), (qM13, .inl (cI, 7, .inl (fun k => nI (be k))))] := hD
              rw [il5_u1] at hP hD
              have hP : va_P G vwCl [(qM, .inr (6, [.int (nI told), .ref qM1, .ref qM2, .int (nI pts), .ref qM3, .int (nI pcs), .ref qM4, .ref qM5, .int (nI sms), .ref qM6, .int (nI wd), .int (nI ck), .int (nI nc), .ref qM7, .ref qM8, .ref qM9, .ref qM10, .ref qM11, .ref qM12, .ref qM13, .int (nI lt), .int (nI en), .int (nI bl), .int (nI bn)])), (qM1, .inl (cI, 200, .inl (il5 (upd hd told hand) (upd bd told body) ms dy vl))), (qM2, .inl (cI, 24, .inl hbt)), (qM3, .inl (cI, 100, .inl (il5 k0 k1 k2 k3 k4))), (qM4, .inl (cI, 7, .inl (fun k => nI (sn k)))), (qM5, .inl (cI, 56, .inl cor)), (qM6, .inl (cI, 40, .inl (fun k => nI (jn k)))), (qM7, .inl (cI, 24, .inl (fun k => nI (i4 cu se fi pr k)))), (qM8, .inl (cI, 20, .inl xx)), (qM9, .inl (cI, 20, .inl yy)), (qM10, .inl (cI, 7, .inl (fun k => nI (wn k)))), (qM11, .inl (cI, 7, .inl (fun k => nI (hn k)))), (qM12, .inl (cI, 7, .inl (fun k => nI (on k)))), (qM13, .inl (cI, 7, .inl (fun k => nI (be k))))] H := hP
              have hD : va_D A [(qM, .inr (6, [.int (nI told), .ref qM1, .ref qM2, .int (nI pts), .ref qM3, .int (nI pcs), .ref qM4, .ref qM5, .int (nI sms), .ref qM6, .int (nI wd), .int (nI ck), .int (nI nc), .ref qM7, .ref qM8, .ref qM9, .ref qM10, .ref qM11, .ref qM12, .ref qM13, .int (nI lt), .int (nI en), .int (nI bl), .int (nI bn)])), (qM1, .inl (cI, 200, .inl (il5 (upd hd told hand) (upd bd told body) ms dy vl))), (qM2, .inl (cI, 24, .inl hbt)), (qM3, .inl (cI, 100, .inl (il5 k0 k1 k2 k3 k4))), (qM4, .inl (cI, 7, .inl (fun k => nI (sn k)))), (qM5, .inl (cI, 56, .inl cor)), (qM6, .inl (cI, 40, .inl (fun k => nI (jn k)))), (qM7, .inl (cI, 24, .inl (fun k => nI (i4 cu se fi pr k)))), (qM8, .inl (cI, 20, .inl xx)), (qM9, .inl (cI, 20, .inl yy)), (qM10, .inl (cI, 7, .inl (fun k => nI (wn k)))), (qM11, .inl (cI, 7, .inl (fun k => nI (hn k)))), (qM12, .inl (cI, 7, .inl (fun k => nI (on k)))), (qM13, .inl (cI, 7, .inl (fun k => nI (be k))))] := hD
              refine lv_aload_n hx hb dX6_tell_86 rfl (lv_at hl 1 rfl) ?_
              refine va_get (D := G) (ci := 6) (v := .ref qM1) (C := RX6) (T := TX6) (N := 24) hx hb hts (fun _ h => List.mem_cons_of_mem _ (List.mem_append_right _ h)) hown hK.1 hP 0 rfl rfl 1 (by decide) (hts (.fieldLink RX6 7 "TailorHouseModel" "telling" "[I") (List.mem_of_getElem? (i := 2) rfl)) (fun _ h9 => h9) rfl dX6_tell_87 ?_
              refine lv_iload hx hb dX6_tell_90 (lv_at hl 0 rfl) ?_
              refine lv_iconst (v := 2) hx hb dX6_tell_92 (by decide) ?_
              refine kx_iaddN hx hb (5 * told) 2 dX6_tell_93 ?_
              refine lv_iload_n hx hb dX6_tell_94 rfl (lv_at hl 4 rfl) ?_
              refine kx_iastN hx hb hK.1 hP hD hS 1 rfl rfl ((5 * told) + 2) (by omega) (by decide) dX6_tell_95 (fun H locs hP hD hS => ?_)
              have hP : va_P G vwCl [(qM, .inr (6, [.int (nI told), .ref qM1, .ref qM2, .int (nI pts), .ref qM3, .int (nI pcs), .ref qM4, .ref qM5, .int (nI sms), .ref qM6, .int (nI wd), .int (nI ck), .int (nI nc), .ref qM7, .ref qM8, .ref qM9, .ref qM10, .ref qM11, .ref qM12, .ref qM13, .int (nI lt), .int (nI en), .int (nI bl), .int (nI bn)])), (qM1, .inl (cI, 200, .inl (upd (il5 (upd hd told hand) (upd bd told body) ms dy vl) ((5 * told) + 2) measure))), (qM2, .inl (cI, 24, .inl hbt)), (qM3, .inl (cI, 100, .inl (il5 k0 k1 k2 k3 k4))), (qM4, .inl (cI, 7, .inl (fun k => nI (sn k)))), (qM5, .inl (cI, 56, .inl cor)), (qM6, .inl (cI, 40, .inl (fun k => nI (jn k)))), (qM7, .inl (cI, 24, .inl (fun k => nI (i4 cu se fi pr k)))), (qM8, .inl (cI, 20, .inl xx)), (qM9, .inl (cI, 20, .inl yy)), (qM10, .inl (cI, 7, .inl (fun k => nI (wn k)))), (qM11, .inl (cI, 7, .inl (fun k => nI (hn k)))), (qM12, .inl (cI, 7, .inl (fun k => nI (on k)))), (qM13, .inl (cI, 7, .inl (fun k => nI (be k))))] H := hP
              have hD : va_D A [(qM, .inr (6, [.int (nI told), .ref qM1, .ref qM2, .int (nI pts), .ref qM3, .int (nI pcs), .ref qM4, .ref qM5, .int (nI sms), .ref qM6, .int (nI wd), .int (nI ck), .int (nI nc), .ref qM7, .ref qM8, .ref qM9, .ref qM10, .ref qM11, .ref qM12, .ref qM13, .int (nI lt), .int (nI en), .int (nI bl), .int (nI bn)])), (qM1, .inl (cI, 200, .inl (upd (il5 (upd hd told hand) (upd bd told body) ms dy vl) ((5 * told) + 2) measure))), (qM2, .inl (cI, 24, .inl hbt)), (qM3, .inl (cI, 100, .inl (il5 k0 k1 k2 k3 k4))), (qM4, .inl (cI, 7, .inl (fun k => nI (sn k)))), (qM5, .inl (cI, 56, .inl cor)), (qM6, .inl (cI, 40, .inl (fun k => nI (jn k)))), (qM7, .inl (cI, 24, .inl (fun k => nI (i4 cu se fi pr k)))), (qM8, .inl (cI, 20, .inl xx)), (qM9, .inl (cI, 20, .inl yy)), (qM10, .inl (cI, 7, .inl (fun k => nI (wn k)))), (qM11, .inl (cI, 7, .inl (fun k => nI (hn k)))), (qM12, .inl (cI, 7, .inl (fun k => nI (on k)))), (qM13, .inl (cI, 7, .inl (fun k => nI (be k))))] := hD
              rw [il5_u2] at hP hD
              have hP : va_P G vwCl [(qM, .inr (6, [.int (nI told), .ref qM1, .ref qM2, .int (nI pts), .ref qM3, .int (nI pcs), .ref qM4, .ref qM5, .int (nI sms), .ref qM6, .int (nI wd), .int (nI ck), .int (nI nc), .ref qM7, .ref qM8, .ref qM9, .ref qM10, .ref qM11, .ref qM12, .ref qM13, .int (nI lt), .int (nI en), .int (nI bl), .int (nI bn)])), (qM1, .inl (cI, 200, .inl (il5 (upd hd told hand) (upd bd told body) (upd ms told measure) dy vl))), (qM2, .inl (cI, 24, .inl hbt)), (qM3, .inl (cI, 100, .inl (il5 k0 k1 k2 k3 k4))), (qM4, .inl (cI, 7, .inl (fun k => nI (sn k)))), (qM5, .inl (cI, 56, .inl cor)), (qM6, .inl (cI, 40, .inl (fun k => nI (jn k)))), (qM7, .inl (cI, 24, .inl (fun k => nI (i4 cu se fi pr k)))), (qM8, .inl (cI, 20, .inl xx)), (qM9, .inl (cI, 20, .inl yy)), (qM10, .inl (cI, 7, .inl (fun k => nI (wn k)))), (qM11, .inl (cI, 7, .inl (fun k => nI (hn k)))), (qM12, .inl (cI, 7, .inl (fun k => nI (on k)))), (qM13, .inl (cI, 7, .inl (fun k => nI (be k))))] H := hP
              have hD : va_D A [(qM, .inr (6, [.int (nI told), .ref qM1, .ref qM2, .int (nI pts), .ref qM3, .int (nI pcs), .ref qM4, .ref qM5, .int (nI sms), .ref qM6, .int (nI wd), .int (nI ck), .int (nI nc), .ref qM7, .ref qM8, .ref qM9, .ref qM10, .ref qM11, .ref qM12, .ref qM13, .int (nI lt), .int (nI en), .int (nI bl), .int (nI bn)])), (qM1, .inl (cI, 200, .inl (il5 (upd hd told hand) (upd bd told body) (upd ms told measure) dy vl))), (qM2, .inl (cI, 24, .inl hbt)), (qM3, .inl (cI, 100, .inl (il5 k0 k1 k2 k3 k4))), (qM4, .inl (cI, 7, .inl (fun k => nI (sn k)))), (qM5, .inl (cI, 56, .inl cor)), (qM6, .inl (cI, 40, .inl (fun k => nI (jn k)))), (qM7, .inl (cI, 24, .inl (fun k => nI (i4 cu se fi pr k)))), (qM8, .inl (cI, 20, .inl xx)), (qM9, .inl (cI, 20, .inl yy)), (qM10, .inl (cI, 7, .inl (fun k => nI (wn k)))), (qM11, .inl (cI, 7, .inl (fun k => nI (hn k)))), (qM12, .inl (cI, 7, .inl (fun k => nI (on k)))), (qM13, .inl (cI, 7, .inl (fun k => nI (be k))))] := hD
              refine lv_aload_n hx hb dX6_tell_96 rfl (lv_at hl 1 rfl) ?_
              refine va_get (D := G) (ci := 6) (v := .ref qM1) (C := RX6) (T := TX6) (N := 24) hx hb hts (fun _ h => List.mem_cons_of_mem _ (List.mem_append_right _ h)) hown hK.1 hP 0 rfl rfl 1 (by decide) (hts (.fieldLink RX6 7 "TailorHouseModel" "telling" "[I") (List.mem_of_getElem? (i := 2) rfl)) (fun _ h9 => h9) rfl dX6_tell_97 ?_
              refine lv_iload hx hb dX6_tell_100 (lv_at hl 0 rfl) ?_
              refine lv_iconst (v := 3) hx hb dX6_tell_102 (by decide) ?_
              refine kx_iaddN hx hb (5 * told) 3 dX6_tell_103 ?_
              refine lv_iload hx hb dX6_tell_104 (lv_at hl 5 rfl) ?_
              refine kx_iastN hx hb hK.1 hP hD hS 1 rfl rfl ((5 * told) + 3) (by omega) (by decide) dX6_tell_106 (fun H locs hP hD hS => ?_)
              have hP : va_P G vwCl [(qM, .inr (6, [.int (nI told), .ref qM1, .ref qM2, .int (nI pts), .ref qM3, .int (nI pcs), .ref qM4, .ref qM5, .int (nI sms), .ref qM6, .int (nI wd), .int (nI ck), .int (nI nc), .ref qM7, .ref qM8, .ref qM9, .ref qM10, .ref qM11, .ref qM12, .ref qM13, .int (nI lt), .int (nI en), .int (nI bl), .int (nI bn)])), (qM1, .inl (cI, 200, .inl (upd (il5 (upd hd told hand) (upd bd told body) (upd ms told measure) dy vl) ((5 * told) + 3) day))), (qM2, .inl (cI, 24, .inl hbt)), (qM3, .inl (cI, 100, .inl (il5 k0 k1 k2 k3 k4))), (qM4, .inl (cI, 7, .inl (fun k => nI (sn k)))), (qM5, .inl (cI, 56, .inl cor)), (qM6, .inl (cI, 40, .inl (fun k => nI (jn k)))), (qM7, .inl (cI, 24, .inl (fun k => nI (i4 cu se fi pr k)))), (qM8, .inl (cI, 20, .inl xx)), (qM9, .inl (cI, 20, .inl yy)), (qM10, .inl (cI, 7, .inl (fun k => nI (wn k)))), (qM11, .inl (cI, 7, .inl (fun k => nI (hn k)))), (qM12, .inl (cI, 7, .inl (fun k => nI (on k)))), (qM13, .inl (cI, 7, .inl (fun k => nI (be k))))] H := hP
              have hD : va_D A [(qM, .inr (6, [.int (nI told), .ref qM1, .ref qM2, .int (nI pts), .ref qM3, .int (nI pcs), .ref qM4, .ref qM5, .int (nI sms), .ref qM6, .int (nI wd), .int (nI ck), .int (nI nc), .ref qM7, .ref qM8, .ref qM9, .ref qM10, .ref qM11, .ref qM12, .ref qM13, .int (nI lt), .int (nI en), .int (nI bl), .int (nI bn)])), (qM1, .inl (cI, 200, .inl (upd (il5 (upd hd told hand) (upd bd told body) (upd ms told measure) dy vl) ((5 * told) + 3) day))), (qM2, .inl (cI, 24, .inl hbt)), (qM3, .inl (cI, 100, .inl (il5 k0 k1 k2 k3 k4))), (qM4, .inl (cI, 7, .inl (fun k => nI (sn k)))), (qM5, .inl (cI, 56, .inl cor)), (qM6, .inl (cI, 40, .inl (fun k => nI (jn k)))), (qM7, .inl (cI, 24, .inl (fun k => nI (i4 cu se fi pr k)))), (qM8, .inl (cI, 20, .inl xx)), (qM9, .inl (cI, 20, .inl yy)), (qM10, .inl (cI, 7, .inl (fun k => nI (wn k)))), (qM11, .inl (cI, 7, .inl (fun k => nI (hn k)))), (qM12, .inl (cI, 7, .inl (fun k => nI (on k)))), (qM13, .inl (cI, 7, .inl (fun k => nI (be k))))] := hD
              rw [il5_u3] at hP hD
              have hP : va_P G vwCl [(qM, .inr (6, [.int (nI told), .ref qM1, .ref qM2, .int (nI pts), .ref qM3, .int (nI pcs), .ref qM4, .ref qM5, .int (nI sms), .ref qM6, .int (nI wd), .int (nI ck), .int (nI nc), .ref qM7, .ref qM8, .ref qM9, .ref qM10, .ref qM11, .ref qM12, .ref qM13, .int (nI lt), .int (nI en), .int (nI bl), .int (nI bn)])), (qM1, .inl (cI, 200, .inl (il5 (upd hd told hand) (upd bd told body) (upd ms told measure) (upd dy told day) vl))), (qM2, .inl (cI, 24, .inl hbt)), (qM3, .inl (cI, 100, .inl (il5 k0 k1 k2 k3 k4))), (qM4, .inl (cI, 7, .inl (fun k => nI (sn k)))), (qM5, .inl (cI, 56, .inl cor)), (qM6, .inl (cI, 40, .inl (fun k => nI (jn k)))), (qM7, .inl (cI, 24, .inl (fun k => nI (i4 cu se fi pr k)))), (qM8, .inl (cI, 20, .inl xx)), (qM9, .inl (cI, 20, .inl yy)), (qM10, .inl (cI, 7, .inl (fun k => nI (wn k)))), (qM11, .inl (cI, 7, .inl (fun k => nI (hn k)))), (qM12, .inl (cI, 7, .inl (fun k => nI (on k)))), (qM13, .inl (cI, 7, .inl (fun k => nI (be k))))] H := hP
              have hD : va_D A [(qM, .inr (6, [.int (nI told), .ref qM1, .ref qM2, .int (nI pts), .ref qM3, .int (nI pcs), .ref qM4, .ref qM5, .int (nI sms), .ref qM6, .int (nI wd), .int (nI ck), .int (nI nc), .ref qM7, .ref qM8, .ref qM9, .ref qM10, .ref qM11, .ref qM12, .ref qM13, .int (nI lt), .int (nI en), .int (nI bl), .int (nI bn)])), (qM1, .inl (cI, 200, .inl (il5 (upd hd told hand) (upd bd told body) (upd ms told measure) (upd dy told day) vl))), (qM2, .inl (cI, 24, .inl hbt)), (qM3, .inl (cI, 100, .inl (il5 k0 k1 k2 k3 k4))), (qM4, .inl (cI, 7, .inl (fun k => nI (sn k)))), (qM5, .inl (cI, 56, .inl cor)), (qM6, .inl (cI, 40, .inl (fun k => nI (jn k)))), (qM7, .inl (cI, 24, .inl (fun k => nI (i4 cu se fi pr k)))), (qM8, .inl (cI, 20, .inl xx)), (qM9, .inl (cI, 20, .inl yy)), (qM10, .inl (cI, 7, .inl (fun k => nI (wn k)))), (qM11, .inl (cI, 7, .inl (fun k => nI (hn k)))), (qM12, .inl (cI, 7, .inl (fun k => nI (on k)))), (qM13, .inl (cI, 7, .inl (fun k => nI (be k))))] := hD
              refine lv_aload_n hx hb dX6_tell_107 rfl (lv_at hl 1 rfl) ?_
              refine va_get (D := G) (ci := 6) (v := .ref qM1) (C := RX6) (T := TX6) (N := 24) hx hb hts (fun _ h => List.mem_cons_of_mem _ (List.mem_append_right _ h)) hown hK.1 hP 0 rfl rfl 1 (by decide) (hts (.fieldLink RX6 7 "TailorHouseModel" "telling" "[I") (List.mem_of_getElem? (i := 2) rfl)) (fun _ h9 => h9) rfl dX6_tell_108 ?_
              refine lv_iload hx hb dX6_tell_111 (lv_at hl 0 rfl) ?_
              refine lv_iconst (v := 4) hx hb dX6_tell_113 (by decide) ?_
              refine kx_iaddN hx hb (5 * told) 4 dX6_tell_114 ?_
              refine lv_iload hx hb dX6_tell_115 (lv_at hl 6 rfl) ?_
              refine kx_iastN hx hb hK.1 hP hD hS 1 rfl rfl ((5 * told) + 4) (by omega) (by decide) dX6_tell_117 (fun H locs hP hD hS => ?_)
              have hP : va_P G vwCl [(qM, .inr (6, [.int (nI told), .ref qM1, .ref qM2, .int (nI pts), .ref qM3, .int (nI pcs), .ref qM4, .ref qM5, .int (nI sms), .ref qM6, .int (nI wd), .int (nI ck), .int (nI nc), .ref qM7, .ref qM8, .ref qM9, .ref qM10, .ref qM11, .ref qM12, .ref qM13, .int (nI lt), .int (nI en), .int (nI bl), .int (nI bn)])), (qM1, .inl (cI, 200, .inl (upd (il5 (upd hd told hand) (upd bd told body) (upd ms told measure) (upd dy told day) vl) ((5 * told) + 4) v))), (qM2, .inl (cI, 24, .inl hbt)), (qM3, .inl (cI, 100, .inl (il5 k0 k1 k2 k3 k4))), (qM4, .inl (cI, 7, .inl (fun k => nI (sn k)))), (qM5, .inl (cI, 56, .inl cor)), (qM6, .inl (cI, 40, .inl (fun k => nI (jn k)))), (qM7, .inl (cI, 24, .inl (fun k => nI (i4 cu se fi pr k)))), (qM8, .inl (cI, 20, .inl xx)), (qM9, .inl (cI, 20, .inl yy)), (qM10, .inl (cI, 7, .inl (fun k => nI (wn k)))), (qM11, .inl (cI, 7, .inl (fun k => nI (hn k)))), (qM12, .inl (cI, 7, .inl (fun k => nI (on k)))), (qM13, .inl (cI, 7, .inl (fun k => nI (be k))))] H := hP
              have hD : va_D A [(qM, .inr (6, [.int (nI told), .ref qM1, .ref qM2, .int (nI pts), .ref qM3, .int (nI pcs), .ref qM4, .ref qM5, .int (nI sms), .ref qM6, .int (nI wd), .int (nI ck), .int (nI nc), .ref qM7, .ref qM8, .ref qM9, .ref qM10, .ref qM11, .ref qM12, .ref qM13, .int (nI lt), .int (nI en), .int (nI bl), .int (nI bn)])), (qM1, .inl (cI, 200, .inl (upd (il5 (upd hd told hand) (upd bd told body) (upd ms told measure) (upd dy told day) vl) ((5 * told) + 4) v))), (qM2, .inl (cI, 24, .inl hbt)), (qM3, .inl (cI, 100, .inl (il5 k0 k1 k2 k3 k4))), (qM4, .inl (cI, 7, .inl (fun k => nI (sn k)))), (qM5, .inl (cI, 56, .inl cor)), (qM6, .inl (cI, 40, .inl (fun k => nI (jn k)))), (qM7, .inl (cI, 24, .inl (fun k => nI (i4 cu se fi pr k)))), (qM8, .inl (cI, 20, .inl xx)), (qM9, .inl (cI, 20, .inl yy)), (qM10, .inl (cI, 7, .inl (fun k => nI (wn k)))), (qM11, .inl (cI, 7, .inl (fun k => nI (hn k)))), (qM12, .inl (cI, 7, .inl (fun k => nI (on k)))), (qM13, .inl (cI, 7, .inl (fun k => nI (be k))))] := hD
              rw [il5_u4] at hP hD
              have hP : va_P G vwCl [(qM, .inr (6, [.int (nI told), .ref qM1, .ref qM2, .int (nI pts), .ref qM3, .int (nI pcs), .ref qM4, .ref qM5, .int (nI sms), .ref qM6, .int (nI wd), .int (nI ck), .int (nI nc), .ref qM7, .ref qM8, .ref qM9, .ref qM10, .ref qM11, .ref qM12, .ref qM13, .int (nI lt), .int (nI en), .int (nI bl), .int (nI bn)])), (qM1, .inl (cI, 200, .inl (il5 (upd hd told hand) (upd bd told body) (upd ms told measure) (upd dy told day) (upd vl told v)))), (qM2, .inl (cI, 24, .inl hbt)), (qM3, .inl (cI, 100, .inl (il5 k0 k1 k2 k3 k4))), (qM4, .inl (cI, 7, .inl (fun k => nI (sn k)))), (qM5, .inl (cI, 56, .inl cor)), (qM6, .inl (cI, 40, .inl (fun k => nI (jn k)))), (qM7, .inl (cI, 24, .inl (fun k => nI (i4 cu se fi pr k)))), (qM8, .inl (cI, 20, .inl xx)), (qM9, .inl (cI, 20, .inl yy)), (qM10, .inl (cI, 7, .inl (fun k => nI (wn k)))), (qM11, .inl (cI, 7, .inl (fun k => nI (hn k)))), (qM12, .inl (cI, 7, .inl (fun k => nI (on k)))), (qM13, .inl (cI, 7, .inl (fun k => nI (be k))))] H := hP
              have hD : va_D A [(qM, .inr (6, [.int (nI told), .ref qM1, .ref qM2, .int (nI pts), .ref qM3, .int (nI pcs), .ref qM4, .ref qM5, .int (nI sms), .ref qM6, .int (nI wd), .int (nI ck), .int (nI nc), .ref qM7, .ref qM8, .ref qM9, .ref qM10, .ref qM11, .ref qM12, .ref qM13, .int (nI lt), .int (nI en), .int (nI bl), .int (nI bn)])), (qM1, .inl (cI, 200, .inl (il5 (upd hd told hand) (upd bd told body) (upd ms told measure) (upd dy told day) (upd vl told v)))), (qM2, .inl (cI, 24, .inl hbt)), (qM3, .inl (cI, 100, .inl (il5 k0 k1 k2 k3 k4))), (qM4, .inl (cI, 7, .inl (fun k => nI (sn k)))), (qM5, .inl (cI, 56, .inl cor)), (qM6, .inl (cI, 40, .inl (fun k => nI (jn k)))), (qM7, .inl (cI, 24, .inl (fun k => nI (i4 cu se fi pr k)))), (qM8, .inl (cI, 20, .inl xx)), (qM9, .inl (cI, 20, .inl yy)), (qM10, .inl (cI, 7, .inl (fun k => nI (wn k)))), (qM11, .inl (cI, 7, .inl (fun k => nI (hn k)))), (qM12, .inl (cI, 7, .inl (fun k => nI (on k)))), (qM13, .inl (cI, 7, .inl (fun k => nI (be k))))] := hD
              refine lv_aload_n hx hb dX6_tell_118 rfl (lv_at hl 1 rfl) ?_
              refine lv_dup hx hb dX6_tell_119 rfl ?_
              refine va_get (D := G) (ci := 6) (v := .int (nI told)) (C := RX6) (T := TX6) (N := 24) hx hb hts (fun _ h => List.mem_cons_of_mem _ (List.mem_append_right _ h)) hown hK.1 hP 0 rfl rfl 0 (by decide) (hts (.fieldLink RX6 67 "TailorHouseModel" "tellings" "I") (List.mem_of_getElem? (i := 1) rfl)) (fun _ h9 => h9) rfl dX6_tell_120 ?_
              refine lv_iconst (v := 1) hx hb dX6_tell_123 (by decide) ?_
              refine kx_iaddN hx hb told 1 dX6_tell_124 ?_
              refine va_put (D := G) (ci := 6) (v := .int (nI (told + 1))) (ty := .int) (C := RX6) (T := TX6) (N := 24) hx hb hts (fun _ h => List.mem_cons_of_mem _ (List.mem_append_right _ h)) tyX6 tyX6_ok nmX6 hown hK.1 hP hD hS 0 rfl rfl 0 (by decide) (hts (.fieldLink RX6 67 "TailorHouseModel" "tellings" "I") (List.mem_of_getElem? (i := 1) rfl)) (fun _ h9 => h9) rfl (by decide +kernel) rfl rfl (Nat.le_of_ble_eq_true rfl) dX6_tell_125 (fun H locs hP hD hS => ?_)
              have hP : va_P G vwCl [(qM, .inr (6, [.int (nI (told + 1)), .ref qM1, .ref qM2, .int (nI pts), .ref qM3, .int (nI pcs), .ref qM4, .ref qM5, .int (nI sms), .ref qM6, .int (nI wd), .int (nI ck), .int (nI nc), .ref qM7, .ref qM8, .ref qM9, .ref qM10, .ref qM11, .ref qM12, .ref qM13, .int (nI lt), .int (nI en), .int (nI bl), .int (nI bn)])), (qM1, .inl (cI, 200, .inl (il5 (upd hd told hand) (upd bd told body) (upd ms told measure) (upd dy told day) (upd vl told v)))), (qM2, .inl (cI, 24, .inl hbt)), (qM3, .inl (cI, 100, .inl (il5 k0 k1 k2 k3 k4))), (qM4, .inl (cI, 7, .inl (fun k => nI (sn k)))), (qM5, .inl (cI, 56, .inl cor)), (qM6, .inl (cI, 40, .inl (fun k => nI (jn k)))), (qM7, .inl (cI, 24, .inl (fun k => nI (i4 cu se fi pr k)))), (qM8, .inl (cI, 20, .inl xx)), (qM9, .inl (cI, 20, .inl yy)), (qM10, .inl (cI, 7, .inl (fun k => nI (wn k)))), (qM11, .inl (cI, 7, .inl (fun k => nI (hn k)))), (qM12, .inl (cI, 7, .inl (fun k => nI (on k)))), (qM13, .inl (cI, 7, .inl (fun k => nI (be k))))] H := hP
              have hD : va_D A [(qM, .inr (6, [.int (nI (told + 1)), .ref qM1, .ref qM2, .int (nI pts), .ref qM3, .int (nI pcs), .ref qM4, .ref qM5, .int (nI sms), .ref qM6, .int (nI wd), .int (nI ck), .int (nI nc), .ref qM7, .ref qM8, .ref qM9, .ref qM10, .ref qM11, .ref qM12, .ref qM13, .int (nI lt), .int (nI en), .int (nI bl), .int (nI bn)])), (qM1, .inl (cI, 200, .inl (il5 (upd hd told hand) (upd bd told body) (upd ms told measure) (upd dy told day) (upd vl told v)))), (qM2, .inl (cI, 24, .inl hbt)), (qM3, .inl (cI, 100, .inl (il5 k0 k1 k2 k3 k4))), (qM4, .inl (cI, 7, .inl (fun k => nI (sn k)))), (qM5, .inl (cI, 56, .inl cor)), (qM6, .inl (cI, 40, .inl (fun k => nI (jn k)))), (qM7, .inl (cI, 24, .inl (fun k => nI (i4 cu se fi pr k)))), (qM8, .inl (cI, 20, .inl xx)), (qM9, .inl (cI, 20, .inl yy)), (qM10, .inl (cI, 7, .inl (fun k => nI (wn k)))), (qM11, .inl (cI, 7, .inl (fun k => nI (hn k)))), (qM12, .inl (cI, 7, .inl (fun k => nI (on k)))), (qM13, .inl (cI, 7, .inl (fun k => nI (be k))))] := hD
              refine lv_aload_n hx hb dX6_tell_128 rfl (lv_at hl 1 rfl) ?_
              refine va_get (D := G) (ci := 6) (v := .int (nI (told + 1))) (C := RX6) (T := TX6) (N := 24) hx hb hts (fun _ h => List.mem_cons_of_mem _ (List.mem_append_right _ h)) hown hK.1 hP 0 rfl rfl 0 (by decide) (hts (.fieldLink RX6 67 "TailorHouseModel" "tellings" "I") (List.mem_of_getElem? (i := 1) rfl)) (fun _ h9 => h9) rfl dX6_tell_129 ?_
              exact W.iret (v := (nI (told + 1))) hx hb hr (fun t ht hW => ⟨⟨(nI (told + 1)), (upd hd told hand, upd bd told body, upd ms told measure, upd dy told day, upd vl told v, told + 1), rfl, by show ite _ _ _; rw [if_pos ⟨c_1, c_2, c_3, c_4, c_5⟩, if_pos (show told < 40 by omega)]; exact ⟨rfl, rfl, rfl, rfl, rfl, rfl, rfl⟩, by (show va_P G vwCl _ t.heap; rw [ht]; exact hP)⟩, hS.F ht⟩) hS.2.2 dX6_tell_132 hlocks
            · skip
              refine lv_bipush (v := (-4)) hx hb dX6_tell_57 (by decide) ?_
              exact W.iret (v := (-4)) hx hb hr (fun t ht hW => ⟨⟨(-4), (hd, bd, ms, dy, vl, told), rfl, by show ite _ _ _; rw [if_pos ⟨c_1, c_2, c_3, c_4, c_5⟩, if_neg (show ¬ told < 40 by omega)]; exact ⟨rfl, rfl, rfl, rfl, rfl, rfl, rfl⟩, by (show va_P G vwCl _ t.heap; rw [ht]; exact hP)⟩, hS.F ht⟩) hS.2.2 dX6_tell_59 hlocks
          · skip
            refine lv_bipush (v := (-2)) hx hb dX6_tell_45 (by decide) ?_
            exact W.iret (v := (-2)) hx hb hr (fun t ht hW => ⟨⟨(-2), (hd, bd, ms, dy, vl, told), rfl, by show ite _ _ _; rw [if_neg (fun h => by obtain ⟨h1, h2, h3, h4, h5⟩ := h; first | exact absurd (by assumption) c_5 | contradiction)]; exact ⟨rfl, rfl, rfl, rfl, rfl, rfl, rfl⟩, by (show va_P G vwCl _ t.heap; rw [ht]; exact hP)⟩, hS.F ht⟩) hS.2.2 dX6_tell_47 hlocks
theorem h_X6_habit (cI cZ : ClassId) (qM : Nat) (qM1 : Nat) (qM2 : Nat) (qM3 : Nat) (qM4 : Nat) (qM5 : Nat) (qM6 : Nat) (qM7 : Nat) (qM8 : Nat) (qM9 : Nat) (qM10 : Nat) (qM11 : Nat) (qM12 : Nat) (qM13 : Nat) (hd : Nat → Int32) (bd : Nat → Int32) (ms : Nat → Int32) (dy : Nat → Int32) (vl : Nat → Int32) (hbt : Nat → Int32) (k0 : Nat → Int32) (k1 : Nat → Int32) (k2 : Nat → Int32) (k3 : Nat → Int32) (k4 : Nat → Int32) (sn : Nat → Nat) (cor : Nat → Int32) (jn : Nat → Nat) (cu : Nat → Nat) (se : Nat → Nat) (fi : Nat → Nat) (pr : Nat → Nat) (xx : Nat → Int32) (yy : Nat → Int32) (wn : Nat → Nat) (hn : Nat → Nat) (on : Nat → Nat) (be : Nat → Nat) (told : Nat) (pts : Nat) (pcs : Nat) (sms : Nat) (wd : Nat) (ck : Nat) (nc : Nat) (lt : Nat) (en : Nat) (bl : Nat) (bn : Nat) : ∀ u, (((fun u : (Nat → Int32) => [(qM, .inr (6, [.int (nI told), .ref qM1, .ref qM2, .int (nI pts), .ref qM3, .int (nI pcs), .ref qM4, .ref qM5, .int (nI sms), .ref qM6, .int (nI wd), .int (nI ck), .int (nI nc), .ref qM7, .ref qM8, .ref qM9, .ref qM10, .ref qM11, .ref qM12, .ref qM13, .int (nI lt), .int (nI en), .int (nI bl), .int (nI bn)])), (qM1, .inl (cI, 200, .inl (il5 hd bd ms dy vl))), (qM2, .inl (cI, 24, .inl u)), (qM3, .inl (cI, 100, .inl (il5 k0 k1 k2 k3 k4))), (qM4, .inl (cI, 7, .inl (fun k => nI (sn k)))), (qM5, .inl (cI, 56, .inl cor)), (qM6, .inl (cI, 40, .inl (fun k => nI (jn k)))), (qM7, .inl (cI, 24, .inl (fun k => nI (i4 cu se fi pr k)))), (qM8, .inl (cI, 20, .inl xx)), (qM9, .inl (cI, 20, .inl yy)), (qM10, .inl (cI, 7, .inl (fun k => nI (wn k)))), (qM11, .inl (cI, 7, .inl (fun k => nI (hn k)))), (qM12, .inl (cI, 7, .inl (fun k => nI (on k)))), (qM13, .inl (cI, 7, .inl (fun k => nI (be k))))]) : (Nat → Int32) → va_W) u).map Prod.fst = ([(qM, .inr (6, [.int (nI told), .ref qM1, .ref qM2, .int (nI pts), .ref qM3, .int (nI pcs), .ref qM4, .ref qM5, .int (nI sms), .ref qM6, .int (nI wd), .int (nI ck), .int (nI nc), .ref qM7, .ref qM8, .ref qM9, .ref qM10, .ref qM11, .ref qM12, .ref qM13, .int (nI lt), .int (nI en), .int (nI bl), .int (nI bn)])), (qM1, .inl (cI, 200, .inl (il5 hd bd ms dy vl))), (qM2, .inl (cI, 24, .inl hbt)), (qM3, .inl (cI, 100, .inl (il5 k0 k1 k2 k3 k4))), (qM4, .inl (cI, 7, .inl (fun k => nI (sn k)))), (qM5, .inl (cI, 56, .inl cor)), (qM6, .inl (cI, 40, .inl (fun k => nI (jn k)))), (qM7, .inl (cI, 24, .inl (fun k => nI (i4 cu se fi pr k)))), (qM8, .inl (cI, 20, .inl xx)), (qM9, .inl (cI, 20, .inl yy)), (qM10, .inl (cI, 7, .inl (fun k => nI (wn k)))), (qM11, .inl (cI, 7, .inl (fun k => nI (hn k)))), (qM12, .inl (cI, 7, .inl (fun k => nI (on k)))), (qM13, .inl (cI, 7, .inl (fun k => nI (be k))))] : va_W).map Prod.fst := fun _ => rfl
abbrev rm_X6_habit : Room := { frames := 2, cells := 0, slots := 0, locals := 42 }
set_option maxHeartbeats 4000000 in
set_option maxRecDepth 100000 in
theorem c_X6_habit (l : Launch) (G : va_G) (cI cZ : ClassId) (qM : Nat) (qM1 : Nat) (qM2 : Nat) (qM3 : Nat) (qM4 : Nat) (qM5 : Nat) (qM6 : Nat) (qM7 : Nat) (qM8 : Nat) (qM9 : Nat) (qM10 : Nat) (qM11 : Nat) (qM12 : Nat) (qM13 : Nat) (hd : Nat → Int32) (bd : Nat → Int32) (ms : Nat → Int32) (dy : Nat → Int32) (vl : Nat → Int32) (hbt : Nat → Int32) (k0 : Nat → Int32) (k1 : Nat → Int32) (k2 : Nat → Int32) (k3 : Nat → Int32) (k4 : Nat → Int32) (sn : Nat → Nat) (cor : Nat → Int32) (jn : Nat → Nat) (cu : Nat → Nat) (se : Nat → Nat) (fi : Nat → Nat) (pr : Nat → Nat) (xx : Nat → Int32) (yy : Nat → Int32) (wn : Nat → Nat) (hn : Nat → Nat) (on : Nat → Nat) (be : Nat → Nat) (told : Nat) (pts : Nat) (pcs : Nat) (sms : Nat) (wd : Nat) (ck : Nat) (nc : Nat) (lt : Nat) (en : Nat) (bl : Nat) (bn : Nat) (sz : Nat) (hand : Int32) (measure : Int32) (v : Int32) : Met l yX6_habit wsX6_habit rm_X6_habit (kx_Pw G cI cZ [(qM, .inr (6, [.int (nI told), .ref qM1, .ref qM2, .int (nI pts), .ref qM3, .int (nI pcs), .ref qM4, .ref qM5, .int (nI sms), .ref qM6, .int (nI wd), .int (nI ck), .int (nI nc), .ref qM7, .ref qM8, .ref qM9, .ref qM10, .ref qM11, .ref qM12, .ref qM13, .int (nI lt), .int (nI en), .int (nI bl), .int (nI bn)])), (qM1, .inl (cI, 200, .inl (il5 hd bd ms dy vl))), (qM2, .inl (cI, 24, .inl hbt)), (qM3, .inl (cI, 100, .inl (il5 k0 k1 k2 k3 k4))), (qM4, .inl (cI, 7, .inl (fun k => nI (sn k)))), (qM5, .inl (cI, 56, .inl cor)), (qM6, .inl (cI, 40, .inl (fun k => nI (jn k)))), (qM7, .inl (cI, 24, .inl (fun k => nI (i4 cu se fi pr k)))), (qM8, .inl (cI, 20, .inl xx)), (qM9, .inl (cI, 20, .inl yy)), (qM10, .inl (cI, 7, .inl (fun k => nI (wn k)))), (qM11, .inl (cI, 7, .inl (fun k => nI (hn k)))), (qM12, .inl (cI, 7, .inl (fun k => nI (on k)))), (qM13, .inl (cI, 7, .inl (fun k => nI (be k))))] sz [.ref qM, .int hand, .int measure, .int v]) (va_Qi (fun (r : Int32) (u : (Nat → Int32)) => if (0 ≤ hand ∧ hand ≤ 3) ∧ (0 ≤ measure ∧ measure ≤ 5) ∧ ((-50) ≤ v ∧ v ≤ 50) then (r = hbt (hand * 6 + measure).toNatClampNeg ∧ u = upd hbt (hand * 6 + measure).toNatClampNeg v) else (r = -1000 ∧ u = hbt)) (fun u t => va_P G vwCl ((fun u : (Nat → Int32) => [(qM, .inr (6, [.int (nI told), .ref qM1, .ref qM2, .int (nI pts), .ref qM3, .int (nI pcs), .ref qM4, .ref qM5, .int (nI sms), .ref qM6, .int (nI wd), .int (nI ck), .int (nI nc), .ref qM7, .ref qM8, .ref qM9, .ref qM10, .ref qM11, .ref qM12, .ref qM13, .int (nI lt), .int (nI en), .int (nI bl), .int (nI bn)])), (qM1, .inl (cI, 200, .inl (il5 hd bd ms dy vl))), (qM2, .inl (cI, 24, .inl u)), (qM3, .inl (cI, 100, .inl (il5 k0 k1 k2 k3 k4))), (qM4, .inl (cI, 7, .inl (fun k => nI (sn k)))), (qM5, .inl (cI, 56, .inl cor)), (qM6, .inl (cI, 40, .inl (fun k => nI (jn k)))), (qM7, .inl (cI, 24, .inl (fun k => nI (i4 cu se fi pr k)))), (qM8, .inl (cI, 20, .inl xx)), (qM9, .inl (cI, 20, .inl yy)), (qM10, .inl (cI, 7, .inl (fun k => nI (wn k)))), (qM11, .inl (cI, 7, .inl (fun k => nI (hn k)))), (qM12, .inl (cI, 7, .inl (fun k => nI (on k)))), (qM13, .inl (cI, 7, .inl (fun k => nI (be k))))]) u) t.heap) (va_A [(qM, .inr (6, [.int (nI told), .ref qM1, .ref qM2, .int (nI pts), .ref qM3, .int (nI pcs), .ref qM4, .ref qM5, .int (nI sms), .ref qM6, .int (nI wd), .int (nI ck), .int (nI nc), .ref qM7, .ref qM8, .ref qM9, .ref qM10, .ref qM11, .ref qM12, .ref qM13, .int (nI lt), .int (nI en), .int (nI bl), .int (nI bn)])), (qM1, .inl (cI, 200, .inl (il5 hd bd ms dy vl))), (qM2, .inl (cI, 24, .inl hbt)), (qM3, .inl (cI, 100, .inl (il5 k0 k1 k2 k3 k4))), (qM4, .inl (cI, 7, .inl (fun k => nI (sn k)))), (qM5, .inl (cI, 56, .inl cor)), (qM6, .inl (cI, 40, .inl (fun k => nI (jn k)))), (qM7, .inl (cI, 24, .inl (fun k => nI (i4 cu se fi pr k)))), (qM8, .inl (cI, 20, .inl xx)), (qM9, .inl (cI, 20, .inl yy)), (qM10, .inl (cI, 7, .inl (fun k => nI (wn k)))), (qM11, .inl (cI, 7, .inl (fun k => nI (hn k)))), (qM12, .inl (cI, 7, .inl (fun k => nI (on k)))), (qM13, .inl (cI, 7, .inl (fun k => nI (be k))))] sz)) 0 0 (va_A [(qM, .inr (6, [.int (nI told), .ref qM1, .ref qM2, .int (nI pts), .ref qM3, .int (nI pcs), .ref qM4, .ref qM5, .int (nI sms), .ref qM6, .int (nI wd), .int (nI ck), .int (nI nc), .ref qM7, .ref qM8, .ref qM9, .ref qM10, .ref qM11, .ref qM12, .ref qM13, .int (nI lt), .int (nI en), .int (nI bl), .int (nI bn)])), (qM1, .inl (cI, 200, .inl (il5 hd bd ms dy vl))), (qM2, .inl (cI, 24, .inl hbt)), (qM3, .inl (cI, 100, .inl (il5 k0 k1 k2 k3 k4))), (qM4, .inl (cI, 7, .inl (fun k => nI (sn k)))), (qM5, .inl (cI, 56, .inl cor)), (qM6, .inl (cI, 40, .inl (fun k => nI (jn k)))), (qM7, .inl (cI, 24, .inl (fun k => nI (i4 cu se fi pr k)))), (qM8, .inl (cI, 20, .inl xx)), (qM9, .inl (cI, 20, .inl yy)), (qM10, .inl (cI, 7, .inl (fun k => nI (wn k)))), (qM11, .inl (cI, 7, .inl (fun k => nI (hn k)))), (qM12, .inl (cI, 7, .inl (fun k => nI (on k)))), (qM13, .inl (cI, 7, .inl (fun k => nI (be k))))] sz) := by
  refine Met.ofW (cc := cX6_habit) (maxL := 5) (ret := (some .int)) (by decide) rfl ?_
  intro p e s m args below meth c s₁ B hml hv
  obtain ⟨rfl, hsz, hP, hD0, hK⟩ := hv
  have hx := B.exec
  have hb := B.bytes
  have hr := B.returns
  have hts := atoms_spec (ws := wsX6_habit) B.pre
  have hown : s.vm.findClass RX6 = some m.cls := findClass_of_methodNamed B.named
  have hlocks := B.notSynchronized
  subst hsz
  have hD := hD0.self (sz := s.heap.size)
  generalize hAe : va_A [(qM, .inr (6, [.int (nI told), .ref qM1, .ref qM2, .int (nI pts), .ref qM3, .int (nI pcs), .ref qM4, .ref qM5, .int (nI sms), .ref qM6, .int (nI wd), .int (nI ck), .int (nI nc), .ref qM7, .ref qM8, .ref qM9, .ref qM10, .ref qM11, .ref qM12, .ref qM13, .int (nI lt), .int (nI en), .int (nI bl), .int (nI bn)])), (qM1, .inl (cI, 200, .inl (il5 hd bd ms dy vl))), (qM2, .inl (cI, 24, .inl hbt)), (qM3, .inl (cI, 100, .inl (il5 k0 k1 k2 k3 k4))), (qM4, .inl (cI, 7, .inl (fun k => nI (sn k)))), (qM5, .inl (cI, 56, .inl cor)), (qM6, .inl (cI, 40, .inl (fun k => nI (jn k)))), (qM7, .inl (cI, 24, .inl (fun k => nI (i4 cu se fi pr k)))), (qM8, .inl (cI, 20, .inl xx)), (qM9, .inl (cI, 20, .inl yy)), (qM10, .inl (cI, 7, .inl (fun k => nI (wn k)))), (qM11, .inl (cI, 7, .inl (fun k => nI (hn k)))), (qM12, .inl (cI, 7, .inl (fun k => nI (on k)))), (qM13, .inl (cI, 7, .inl (fun k => nI (be k))))] s.heap.size = A at hD ⊢
  have hA : ∀ q : Nat, s.heap.size ≤ q → A q := fun q h => by rw [← hAe]; exact Or.inr h
  have hS : va_S A s.heap s.heap [] := va_S.rf
  have hl := lv_entry ([.ref qM, .int hand, .int measure, .int v]) (n := 5) (Nat.le_of_ble_eq_true rfl)
  rw [lg_entry_eq]
  generalize (lg_sl ([.ref qM, .int hand, .int measure, .int v]) ++ List.replicate (5 - (lg_sl ([.ref qM, .int hand, .int measure, .int v])).length) Slot.unset).toArray = ls at hl ⊢
  have hl : lv_has ls 5 [(0, .ref qM), (1, .int hand), (2, .int measure), (3, .int v)] := hl
  refine lv_iload_n hx hb dX6_habit_0 rfl (lv_at hl 1 rfl) ?_
  refine kx_ri (va_runS (As := [.int hand]) (rest := []) ⟨hx, hb, hml, hown, hts⟩ (c_X6_isHand l hand) (va_cwS 1 hts gX6_habit_X6_isHand rfl rfl rfl (by decide +kernel) ⟨(Nat.le_of_ble_eq_true rfl), (Nat.le_of_ble_eq_true rfl)⟩) kx_preS rfl rfl hl.1 rfl (lv_room (Nat.le_of_ble_eq_true rfl)) dX6_habit_1 ⟨Nat.zero_le _, Nat.zero_le _⟩) ?_
  refine kx_ifeqB hx hb (0 ≤ hand ∧ hand ≤ 3) (tgt := 25) dX6_habit_4 (by decide) (fun c_1 => ?_) (fun c_1 => ?_)
  · skip
    refine lv_sipush (v := (-1000)) hx hb dX6_habit_25 (by decide) ?_
    exact W.iret (v := (-1000)) hx hb hr (fun t ht hW => ⟨⟨(-1000), hbt, rfl, by show ite _ _ _; rw [if_neg (fun h => by obtain ⟨h1, h2, h3⟩ := h; first | exact absurd (by assumption) c_1 | contradiction)]; exact ⟨rfl, rfl⟩, by (show va_P G vwCl _ t.heap; rw [ht]; exact hP)⟩, hS.F ht⟩) hS.2.2 dX6_habit_28 hlocks
  · skip
    refine lv_iload_n hx hb dX6_habit_7 rfl (lv_at hl 2 rfl) ?_
    refine kx_ri (va_runS (As := [.int measure]) (rest := []) ⟨hx, hb, hml, hown, hts⟩ (c_X6_isBody l measure) (va_cwS 1 hts gX6_habit_X6_isBody rfl rfl rfl (by decide +kernel) ⟨(Nat.le_of_ble_eq_true rfl), (Nat.le_of_ble_eq_true rfl)⟩) kx_preS rfl rfl hl.1 rfl (lv_room (Nat.le_of_ble_eq_true rfl)) dX6_habit_8 ⟨Nat.zero_le _, Nat.zero_le _⟩) ?_
    refine kx_ifeqB hx hb (0 ≤ measure ∧ measure ≤ 5) (tgt := 25) dX6_habit_11 (by decide) (fun c_2 => ?_) (fun c_2 => ?_)
    · skip
      refine lv_sipush (v := (-1000)) hx hb dX6_habit_25 (by decide) ?_
      exact W.iret (v := (-1000)) hx hb hr (fun t ht hW => ⟨⟨(-1000), hbt, rfl, by show ite _ _ _; rw [if_neg (fun h => by obtain ⟨h1, h2, h3⟩ := h; first | exact absurd (by assumption) c_2 | contradiction)]; exact ⟨rfl, rfl⟩, by (show va_P G vwCl _ t.heap; rw [ht]; exact hP)⟩, hS.F ht⟩) hS.2.2 dX6_habit_28 hlocks
    · skip
      refine lv_iload_n hx hb dX6_habit_14 rfl (lv_at hl 3 rfl) ?_
      refine lv_bipush (v := (-50)) hx hb dX6_habit_15 (by decide) ?_
      refine lv_bipush (v := 50) hx hb dX6_habit_17 (by decide) ?_
      refine kx_ri (va_runS (As := [.int v, .int (-50), .int 50]) (rest := []) ⟨hx, hb, hml, hown, hts⟩ (c_X6_in l v (-50) 50) (va_cwS 3 hts gX6_habit_X6_in rfl rfl rfl (by decide +kernel) ⟨(Nat.le_of_ble_eq_true rfl), (Nat.le_of_ble_eq_true rfl)⟩) kx_preS rfl rfl hl.1 rfl (lv_room (Nat.le_of_ble_eq_true rfl)) dX6_habit_19 ⟨Nat.zero_le _, Nat.zero_le _⟩) ?_
      refine kx_ifneB hx hb ((-50) ≤ v ∧ v ≤ 50) (tgt := 29) dX6_habit_22 (by decide) (fun c_3 => ?_) (fun c_3 => ?_)
      · skip
        refine lv_aload_n hx hb dX6_habit_29 rfl (lv_at hl 0 rfl) ?_
        refine va_get (D := G) (ci := 6) (v := .ref qM2) (C := RX6) (T := TX6) (N := 24) hx hb hts (fun _ h => List.mem_cons_of_mem _ (List.mem_append_right _ h)) hown hK.1 hP 0 rfl rfl 2 (by decide) (hts (.fieldLink RX6 13 "TailorHouseModel" "habit" "[I") (List.mem_of_getElem? (i := 1) rfl)) (fun _ h9 => h9) rfl dX6_habit_30 ?_
        refine lv_bipush (v := 6) hx hb dX6_habit_33 (by decide) ?_
        refine lv_iload_n hx hb dX6_habit_35 rfl (lv_at hl 1 rfl) ?_
        refine lv_imul hx hb dX6_habit_36 ?_
        refine lv_iload_n hx hb dX6_habit_37 rfl (lv_at hl 2 rfl) ?_
        refine lv_iadd hx hb dX6_habit_38 ?_
        refine va_iald hx hb hK.1 hP 2 0 rfl rfl (kx_hab2 (kx_vin (k := 3) (by decide) c_1.1 c_1.2) (kx_vin (k := 5) (by decide) c_2.1 c_2.2)) dX6_habit_39 ?_
        refine lv_istore (lv' := [(4, .int (hbt ((6 * hand) + measure).toNatClampNeg)), (0, .ref qM), (1, .int hand), (2, .int measure), (3, .int v)]) hx hb dX6_habit_40 hl (by decide) rfl (fun ls hl => ?_)
        refine lv_aload_n hx hb dX6_habit_42 rfl (lv_at hl 1 rfl) ?_
        refine va_get (D := G) (ci := 6) (v := .ref qM2) (C := RX6) (T := TX6) (N := 24) hx hb hts (fun _ h => List.mem_cons_of_mem _ (List.mem_append_right _ h)) hown hK.1 hP 0 rfl rfl 2 (by decide) (hts (.fieldLink RX6 13 "TailorHouseModel" "habit" "[I") (List.mem_of_getElem? (i := 1) rfl)) (fun _ h9 => h9) rfl dX6_habit_43 ?_
        refine lv_bipush (v := 6) hx hb dX6_habit_46 (by decide) ?_
        refine lv_iload_n hx hb dX6_habit_48 rfl (lv_at hl 2 rfl) ?_
        refine lv_imul hx hb dX6_habit_49 ?_
        refine lv_iload_n hx hb dX6_habit_50 rfl (lv_at hl 3 rfl) ?_
        refine lv_iadd hx hb dX6_habit_51 ?_
        refine lv_iload_n hx hb dX6_habit_52 rfl (lv_at hl 4 rfl) ?_
        refine va_iast hx hb hK.1 hP hD hS 2 0 rfl rfl (kx_hab2 (kx_vin (k := 3) (by decide) c_1.1 c_1.2) (kx_vin (k := 5) (by decide) c_2.1 c_2.2)) dX6_habit_53 (fun H locs hP hD hS => ?_)
        have hP : va_P G vwCl [(qM, .inr (6, [.int (nI told), .ref qM1, .ref qM2, .int (nI pts), .ref qM3, .int (nI pcs), .ref qM4, .ref qM5, .int (nI sms), .ref qM6, .int (nI wd), .int (nI ck), .int (nI nc), .ref qM7, .ref qM8, .ref qM9, .ref qM10, .ref qM11, .ref qM12, .ref qM13, .int (nI lt), .int (nI en), .int (nI bl), .int (nI bn)])), (qM1, .inl (cI, 200, .inl (il5 hd bd ms dy vl))), (qM2, .inl (cI, 24, .inl (upd hbt ((6 * hand) + measure).toNatClampNeg v))), (qM3, .inl (cI, 100, .inl (il5 k0 k1 k2 k3 k4))), (qM4, .inl (cI, 7, .inl (fun k => nI (sn k)))), (qM5, .inl (cI, 56, .inl cor)), (qM6, .inl (cI, 40, .inl (fun k => nI (jn k)))), (qM7, .inl (cI, 24, .inl (fun k => nI (i4 cu se fi pr k)))), (qM8, .inl (cI, 20, .inl xx)), (qM9, .inl (cI, 20, .inl yy)), (qM10, .inl (cI, 7, .inl (fun k => nI (wn k)))), (qM11, .inl (cI, 7, .inl (fun k => nI (hn k)))), (qM12, .inl (cI, 7, .inl (fun k => nI (on k)))), (qM13, .inl (cI, 7, .inl (fun k => nI (be k))))] H := hP
        have hD : va_D A [(qM, .inr (6, [.int (nI told), .ref qM1, .ref qM2, .int (nI pts), .ref qM3, .int (nI pcs), .ref qM4, .ref qM5, .int (nI sms), .ref qM6, .int (nI wd), .int (nI ck), .int (nI nc), .ref qM7, .ref qM8, .ref qM9, .ref qM10, .ref qM11, .ref qM12, .ref qM13, .int (nI lt), .int (nI en), .int (nI bl), .int (nI bn)])), (qM1, .inl (cI, 200, .inl (il5 hd bd ms dy vl))), (qM2, .inl (cI, 24, .inl (upd hbt ((6 * hand) + measure).toNatClampNeg v))), (qM3, .inl (cI, 100, .inl (il5 k0 k1 k2 k3 k4))), (qM4, .inl (cI, 7, .inl (fun k => nI (sn k)))), (qM5, .inl (cI, 56, .inl cor)), (qM6, .inl (cI, 40, .inl (fun k => nI (jn k)))), (qM7, .inl (cI, 24, .inl (fun k => nI (i4 cu se fi pr k)))), (qM8, .inl (cI, 20, .inl xx)), (qM9, .inl (cI, 20, .inl yy)), (qM10, .inl (cI, 7, .inl (fun k => nI (wn k)))), (qM11, .inl (cI, 7, .inl (fun k => nI (hn k)))), (qM12, .inl (cI, 7, .inl (fun k => nI (on k)))), (qM13, .inl (cI, 7, .inl (fun k => nI (be k))))] := hD
        refine lv_iload hx hb dX6_habit_54 (lv_at hl 0 rfl) ?_
        exact W.iret (v := (hbt ((6 * hand) + measure).toNatClampNeg)) hx hb hr (fun t ht hW => ⟨⟨(hbt ((6 * hand) + measure).toNatClampNeg), (upd hbt ((6 * hand) + measure).toNatClampNeg v), rfl, by show ite _ _ _; rw [if_pos ⟨c_1, c_2, c_3⟩]; rw [Int32.mul_comm 6 hand]; exact ⟨rfl, rfl⟩, by (show va_P G vwCl _ t.heap; rw [ht]; exact hP)⟩, hS.F ht⟩) hS.2.2 dX6_habit_56 hlocks
      · skip
        refine lv_sipush (v := (-1000)) hx hb dX6_habit_25 (by decide) ?_
        exact W.iret (v := (-1000)) hx hb hr (fun t ht hW => ⟨⟨(-1000), hbt, rfl, by show ite _ _ _; rw [if_neg (fun h => by obtain ⟨h1, h2, h3⟩ := h; first | exact absurd (by assumption) c_3 | contradiction)]; exact ⟨rfl, rfl⟩, by (show va_P G vwCl _ t.heap; rw [ht]; exact hP)⟩, hS.F ht⟩) hS.2.2 dX6_habit_28 hlocks
abbrev rm_X6_isOf : Room := { frames := 0, cells := 0, slots := 0, locals := 0 }
set_option maxHeartbeats 4000000 in
set_option maxRecDepth 100000 in
theorem c_X6_isOf (l : Launch) (G : va_G) (cI cZ : ClassId) (qM : Nat) (qM1 : Nat) (qM2 : Nat) (qM3 : Nat) (qM4 : Nat) (qM5 : Nat) (qM6 : Nat) (qM7 : Nat) (qM8 : Nat) (qM9 : Nat) (qM10 : Nat) (qM11 : Nat) (qM12 : Nat) (qM13 : Nat) (hd : Nat → Int32) (bd : Nat → Int32) (ms : Nat → Int32) (dy : Nat → Int32) (vl : Nat → Int32) (hbt : Nat → Int32) (k0 : Nat → Int32) (k1 : Nat → Int32) (k2 : Nat → Int32) (k3 : Nat → Int32) (k4 : Nat → Int32) (sn : Nat → Nat) (cor : Nat → Int32) (jn : Nat → Nat) (cu : Nat → Nat) (se : Nat → Nat) (fi : Nat → Nat) (pr : Nat → Nat) (xx : Nat → Int32) (yy : Nat → Int32) (wn : Nat → Nat) (hn : Nat → Nat) (on : Nat → Nat) (be : Nat → Nat) (told : Nat) (pts : Nat) (pcs : Nat) (sms : Nat) (wd : Nat) (ck : Nat) (nc : Nat) (lt : Nat) (en : Nat) (bl : Nat) (bn : Nat) (i : Nat) (body : Int32) (measure : Int32) (hi : i < 40) : Met l yX6_isOf wsX6_isOf rm_X6_isOf (kx_Pr G cI cZ [(qM, .inr (6, [.int (nI told), .ref qM1, .ref qM2, .int (nI pts), .ref qM3, .int (nI pcs), .ref qM4, .ref qM5, .int (nI sms), .ref qM6, .int (nI wd), .int (nI ck), .int (nI nc), .ref qM7, .ref qM8, .ref qM9, .ref qM10, .ref qM11, .ref qM12, .ref qM13, .int (nI lt), .int (nI en), .int (nI bl), .int (nI bn)])), (qM1, .inl (cI, 200, .inl (il5 hd bd ms dy vl))), (qM2, .inl (cI, 24, .inl hbt)), (qM3, .inl (cI, 100, .inl (il5 k0 k1 k2 k3 k4))), (qM4, .inl (cI, 7, .inl (fun k => nI (sn k)))), (qM5, .inl (cI, 56, .inl cor)), (qM6, .inl (cI, 40, .inl (fun k => nI (jn k)))), (qM7, .inl (cI, 24, .inl (fun k => nI (i4 cu se fi pr k)))), (qM8, .inl (cI, 20, .inl xx)), (qM9, .inl (cI, 20, .inl yy)), (qM10, .inl (cI, 7, .inl (fun k => nI (wn k)))), (qM11, .inl (cI, 7, .inl (fun k => nI (hn k)))), (qM12, .inl (cI, 7, .inl (fun k => nI (on k)))), (qM13, .inl (cI, 7, .inl (fun k => nI (be k))))] [.ref qM, .int (nI i), .int body, .int measure]) (QcRead (kb (bd i = body ∧ ms i = measure))) 0 0 (fun _ => False) := by
  refine Met.ofW (cc := cX6_isOf) (maxL := 4) (ret := (some .boolean)) (by decide) rfl ?_
  intro p e s m args below meth c s₁ B hml hv
  obtain ⟨rfl, hP, hK⟩ := hv
  have hx := B.exec
  have hb := B.bytes
  have hr := B.returns
  have hts := atoms_spec (ws := wsX6_isOf) B.pre
  have hown : s.vm.findClass RX6 = some m.cls := findClass_of_methodNamed B.named
  have hlocks := B.notSynchronized
  have hl := lv_entry ([.ref qM, .int (nI i), .int body, .int measure]) (n := 4) (Nat.le_of_ble_eq_true rfl)
  rw [lg_entry_eq]
  generalize (lg_sl ([.ref qM, .int (nI i), .int body, .int measure]) ++ List.replicate (4 - (lg_sl ([.ref qM, .int (nI i), .int body, .int measure])).length) Slot.unset).toArray = ls at hl ⊢
  have hl : lv_has ls 4 [(0, .ref qM), (1, .int (nI i)), (2, .int body), (3, .int measure)] := hl
  refine lv_aload_n hx hb dX6_isOf_0 rfl (lv_at hl 0 rfl) ?_
  refine va_get (D := G) (ci := 6) (v := .ref qM1) (C := RX6) (T := TX6) (N := 24) hx hb hts (fun _ h => List.mem_cons_of_mem _ (List.mem_append_right _ h)) hown hK.1 hP 0 rfl rfl 1 (by decide) (hts (.fieldLink RX6 7 "TailorHouseModel" "telling" "[I") (List.mem_of_getElem? (i := 1) rfl)) (fun _ h9 => h9) rfl dX6_isOf_1 ?_
  refine lv_iconst (v := 5) hx hb dX6_isOf_4 (by decide) ?_
  refine lv_iload_n hx hb dX6_isOf_5 rfl (lv_at hl 1 rfl) ?_
  refine kx_imulN hx hb 5 i dX6_isOf_6 ?_
  refine lv_iconst (v := 1) hx hb dX6_isOf_7 (by decide) ?_
  refine kx_iaddN hx hb (5 * i) 1 dX6_isOf_8 ?_
  refine kx_ialdN hx hb hK.1 hP 1 rfl rfl ((5 * i) + 1) (by omega) (by decide) dX6_isOf_9 ?_
  refine kx_top (y := bd i) (il5_1 hd bd ms dy vl i) ?_
  refine lv_iload_n hx hb dX6_isOf_10 rfl (lv_at hl 2 rfl) ?_
  refine lv_icmp_ne (tgt := 32) hx hb dX6_isOf_11 (by decide) (fun c_1 => ?_) (fun c_1 => ?_)
  · skip
    refine lv_iconst (v := 0) hx hb dX6_isOf_32 (by decide) ?_
    exact kx_zret hx hb hr (v := 0) (by simp [kb, c_1]) dX6_isOf_33 hlocks
  · skip
    refine lv_aload_n hx hb dX6_isOf_14 rfl (lv_at hl 0 rfl) ?_
    refine va_get (D := G) (ci := 6) (v := .ref qM1) (C := RX6) (T := TX6) (N := 24) hx hb hts (fun _ h => List.mem_cons_of_mem _ (List.mem_append_right _ h)) hown hK.1 hP 0 rfl rfl 1 (by decide) (hts (.fieldLink RX6 7 "TailorHouseModel" "telling" "[I") (List.mem_of_getElem? (i := 1) rfl)) (fun _ h9 => h9) rfl dX6_isOf_15 ?_
    refine lv_iconst (v := 5) hx hb dX6_isOf_18 (by decide) ?_
    refine lv_iload_n hx hb dX6_isOf_19 rfl (lv_at hl 1 rfl) ?_
    refine kx_imulN hx hb 5 i dX6_isOf_20 ?_
    refine lv_iconst (v := 2) hx hb dX6_isOf_21 (by decide) ?_
    refine kx_iaddN hx hb (5 * i) 2 dX6_isOf_22 ?_
    refine kx_ialdN hx hb hK.1 hP 1 rfl rfl ((5 * i) + 2) (by omega) (by decide) dX6_isOf_23 ?_
    refine kx_top (y := ms i) (il5_2 hd bd ms dy vl i) ?_
    refine lv_iload_n hx hb dX6_isOf_24 rfl (lv_at hl 3 rfl) ?_
    refine lv_icmp_ne (tgt := 32) hx hb dX6_isOf_25 (by decide) (fun c_2 => ?_) (fun c_2 => ?_)
    · skip
      refine lv_iconst (v := 0) hx hb dX6_isOf_32 (by decide) ?_
      exact kx_zret hx hb hr (v := 0) (by simp [kb, c_1, c_2]) dX6_isOf_33 hlocks
    · skip
      refine lv_iconst (v := 1) hx hb dX6_isOf_28 (by decide) ?_
      refine lv_goto (tgt := 33) hx hb dX6_isOf_29 (by decide) ?_
      exact kx_zret hx hb hr (v := 1) (by simp [kb, c_1, c_2]) dX6_isOf_33 hlocks
abbrev rm_X6_dayAhead : Room := { frames := 1, cells := 0, slots := 0, locals := 23 }
set_option maxHeartbeats 4000000 in
set_option maxRecDepth 100000 in
theorem c_X6_dayAhead (l : Launch) (G : va_G) (cI cZ : ClassId) (qM : Nat) (qM1 : Nat) (qM2 : Nat) (qM3 : Nat) (qM4 : Nat) (qM5 : Nat) (qM6 : Nat) (qM7 : Nat) (qM8 : Nat) (qM9 : Nat) (qM10 : Nat) (qM11 : Nat) (qM12 : Nat) (qM13 : Nat) (hd : Nat → Int32) (bd : Nat → Int32) (ms : Nat → Int32) (dy : Nat → Int32) (vl : Nat → Int32) (hbt : Nat → Int32) (k0 : Nat → Int32) (k1 : Nat → Int32) (k2 : Nat → Int32) (k3 : Nat → Int32) (k4 : Nat → Int32) (sn : Nat → Nat) (cor : Nat → Int32) (jn : Nat → Nat) (cu : Nat → Nat) (se : Nat → Nat) (fi : Nat → Nat) (pr : Nat → Nat) (xx : Nat → Int32) (yy : Nat → Int32) (wn : Nat → Nat) (hn : Nat → Nat) (on : Nat → Nat) (be : Nat → Nat) (told : Nat) (pts : Nat) (pcs : Nat) (sms : Nat) (wd : Nat) (ck : Nat) (nc : Nat) (lt : Nat) (en : Nat) (bl : Nat) (bn : Nat) (body : Int32) (measure : Int32) (limit : Int32) (hTo : told ≤ 40) : Met l yX6_dayAhead wsX6_dayAhead rm_X6_dayAhead (kx_Pr G cI cZ [(qM, .inr (6, [.int (nI told), .ref qM1, .ref qM2, .int (nI pts), .ref qM3, .int (nI pcs), .ref qM4, .ref qM5, .int (nI sms), .ref qM6, .int (nI wd), .int (nI ck), .int (nI nc), .ref qM7, .ref qM8, .ref qM9, .ref qM10, .ref qM11, .ref qM12, .ref qM13, .int (nI lt), .int (nI en), .int (nI bl), .int (nI bn)])), (qM1, .inl (cI, 200, .inl (il5 hd bd ms dy vl))), (qM2, .inl (cI, 24, .inl hbt)), (qM3, .inl (cI, 100, .inl (il5 k0 k1 k2 k3 k4))), (qM4, .inl (cI, 7, .inl (fun k => nI (sn k)))), (qM5, .inl (cI, 56, .inl cor)), (qM6, .inl (cI, 40, .inl (fun k => nI (jn k)))), (qM7, .inl (cI, 24, .inl (fun k => nI (i4 cu se fi pr k)))), (qM8, .inl (cI, 20, .inl xx)), (qM9, .inl (cI, 20, .inl yy)), (qM10, .inl (cI, 7, .inl (fun k => nI (wn k)))), (qM11, .inl (cI, 7, .inl (fun k => nI (hn k)))), (qM12, .inl (cI, 7, .inl (fun k => nI (on k)))), (qM13, .inl (cI, 7, .inl (fun k => nI (be k))))] [.ref qM, .int body, .int measure, .int limit]) (QcRead (kLast bd ms dy body measure limit told)) 0 0 (fun _ => False) := by
  refine Met.ofW (cc := cX6_dayAhead) (maxL := 7) (ret := (some .int)) (by decide) rfl ?_
  intro p e s m args below meth c s₁ B hml hv
  obtain ⟨rfl, hP, hK⟩ := hv
  have hx := B.exec
  have hb := B.bytes
  have hr := B.returns
  have hts := atoms_spec (ws := wsX6_dayAhead) B.pre
  have hown : s.vm.findClass RX6 = some m.cls := findClass_of_methodNamed B.named
  have hlocks := B.notSynchronized
  have hl := lv_entry ([.ref qM, .int body, .int measure, .int limit]) (n := 7) (Nat.le_of_ble_eq_true rfl)
  rw [lg_entry_eq]
  generalize (lg_sl ([.ref qM, .int body, .int measure, .int limit]) ++ List.replicate (7 - (lg_sl ([.ref qM, .int body, .int measure, .int limit])).length) Slot.unset).toArray = ls at hl ⊢
  have hl : lv_has ls 7 [(0, .ref qM), (1, .int body), (2, .int measure), (3, .int limit)] := hl
  refine lv_iconst (v := (-1)) hx hb dX6_dayAhead_0 (by decide) ?_
  refine lv_istore (lv' := [(4, .int (-1)), (0, .ref qM), (1, .int body), (2, .int measure), (3, .int limit)]) hx hb dX6_dayAhead_1 hl (by decide) rfl (fun ls hl => ?_)
  refine lv_iconst (v := 0) hx hb dX6_dayAhead_3 (by decide) ?_
  refine lv_istore (lv' := [(5, .int 0), (4, .int (-1)), (0, .ref qM), (1, .int body), (2, .int measure), (3, .int limit)]) hx hb dX6_dayAhead_4 hl (by decide) rfl (fun ls hl => ?_)
  have lab_6_1 : ∀ (nn_1 : Nat) (i : Nat) (z1_0 : Int32) (z1_1 : Nat) (hi : i ≤ told) (ez1_0 : (kLast bd ms dy body measure limit i) = z1_0) (ez1_1 : i = z1_1) (ls : Array Slot) (hl : lv_has ls 7 [(5, .int (nI z1_1)), (4, .int z1_0), (0, .ref qM), (1, .int body), (2, .int measure), (3, .int limit)]), (told - i) < nn_1 → W p l e (headSpec wsX6_dayAhead rm_X6_dayAhead).room s m ([.ref qM, .int body, .int measure, .int limit] : List Value).toArray below meth c s.heap [] 0 0 (MQ below (QcRead (kLast bd ms dy body measure limit told)) ([.ref qM, .int body, .int measure, .int limit] : List Value).toArray s 0 0 (fun _ => False)) (F0 m 6 ls []) := by
    intro nn_1
    induction nn_1 with
    | zero => intro i z1_0 z1_1 hi ez1_0 ez1_1 ls hl hn; exact absurd hn (Nat.not_lt_zero _)
    | succ nn_1 ih_1 =>
      intro i z1_0 z1_1 hi ez1_0 ez1_1 ls hl hn_1
      subst ez1_0
      subst ez1_1
      refine lv_iload hx hb dX6_dayAhead_6 (lv_at hl 0 rfl) ?_
      refine lv_aload_n hx hb dX6_dayAhead_8 rfl (lv_at hl 2 rfl) ?_
      refine va_get (D := G) (ci := 6) (v := .int (nI told)) (C := RX6) (T := TX6) (N := 24) hx hb hts (fun _ h => List.mem_cons_of_mem _ (List.mem_append_right _ h)) hown hK.1 hP 0 rfl rfl 0 (by decide) (hts (.fieldLink RX6 67 "TailorHouseModel" "tellings" "I") (List.mem_of_getElem? (i := 1) rfl)) (fun _ h9 => h9) rfl dX6_dayAhead_9 ?_
      refine kx_geN hx hb i told (by omega) (by omega) (tgt := 67) dX6_dayAhead_12 (by decide) (fun c_2 => ?_) (fun c_2 => ?_)
      · skip
        have hE : told = i := by omega
        subst hE
        refine lv_iload hx hb dX6_dayAhead_67 (lv_at hl 1 rfl) ?_
        exact kx_iret hx hb hr (v := (kLast bd ms dy body measure limit told)) (rfl) dX6_dayAhead_69 hlocks
      · skip
        refine lv_aload_n hx hb dX6_dayAhead_15 rfl (lv_at hl 2 rfl) ?_
        refine va_get (D := G) (ci := 6) (v := .ref qM1) (C := RX6) (T := TX6) (N := 24) hx hb hts (fun _ h => List.mem_cons_of_mem _ (List.mem_append_right _ h)) hown hK.1 hP 0 rfl rfl 1 (by decide) (hts (.fieldLink RX6 7 "TailorHouseModel" "telling" "[I") (List.mem_of_getElem? (i := 2) rfl)) (fun _ h9 => h9) rfl dX6_dayAhead_16 ?_
        refine lv_iconst (v := 5) hx hb dX6_dayAhead_19 (by decide) ?_
        refine lv_iload hx hb dX6_dayAhead_20 (lv_at hl 0 rfl) ?_
        refine kx_imulN hx hb 5 i dX6_dayAhead_22 ?_
        refine lv_iconst (v := 3) hx hb dX6_dayAhead_23 (by decide) ?_
        refine kx_iaddN hx hb (5 * i) 3 dX6_dayAhead_24 ?_
        refine kx_ialdN hx hb hK.1 hP 1 rfl rfl ((5 * i) + 3) (by omega) (by decide) dX6_dayAhead_25 ?_
        refine kx_top (y := dy i) (il5_3 hd bd ms dy vl i) ?_
        refine lv_istore (lv' := [(6, .int (dy i)), (5, .int (nI i)), (4, .int (kLast bd ms dy body measure limit i)), (0, .ref qM), (1, .int body), (2, .int measure), (3, .int limit)]) hx hb dX6_dayAhead_26 hl (by decide) rfl (fun ls hl => ?_)
        refine lv_aload_n hx hb dX6_dayAhead_28 rfl (lv_at hl 3 rfl) ?_
        refine lv_iload hx hb dX6_dayAhead_29 (lv_at hl 1 rfl) ?_
        refine lv_iload_n hx hb dX6_dayAhead_31 rfl (lv_at hl 4 rfl) ?_
        refine lv_iload_n hx hb dX6_dayAhead_32 rfl (lv_at hl 5 rfl) ?_
        refine kx_ri (va_runV (As := [.int (nI i), .int body, .int measure]) (rest := []) ⟨hx, hb, hml, hown, hts⟩ (c_X6_isOf l G cI cZ qM qM1 qM2 qM3 qM4 qM5 qM6 qM7 qM8 qM9 qM10 qM11 qM12 qM13 hd bd ms dy vl hbt k0 k1 k2 k3 k4 sn cor jn cu se fi pr xx yy wn hn on be told pts pcs sms wd ck nc lt en bl bn i body measure (by first | assumption | omega)) (cwV 3 hts gX6_dayAhead_X6_isOf rfl rfl rfl (by decide +kernel) ⟨(Nat.le_of_ble_eq_true rfl), (Nat.le_of_ble_eq_true rfl)⟩) (kx_preR hK (kx_sub 0 14 hP rfl) 0 rfl rfl) rfl rfl hl.1 rfl (lv_room (Nat.le_of_ble_eq_true rfl)) dX6_dayAhead_33 ⟨Nat.zero_le _, Nat.zero_le _⟩) ?_
        refine kx_ifeqB hx hb (bd i = body ∧ ms i = measure) (tgt := 57) dX6_dayAhead_36 (by decide) (fun c_3 => ?_) (fun c_3 => ?_)
        · skip
          refine lv_iload hx hb dX6_dayAhead_57 (lv_at hl 2 rfl) ?_
          refine lv_istore (lv' := [(4, .int (kLast bd ms dy body measure limit i)), (6, .int (dy i)), (5, .int (nI i)), (0, .ref qM), (1, .int body), (2, .int measure), (3, .int limit)]) hx hb dX6_dayAhead_59 hl (by decide) rfl (fun ls hl => ?_)
          refine lv_iinc (v := nI (i + 1)) (lv' := [(5, .int (nI (i + 1))), (4, .int (kLast bd ms dy body measure limit i)), (6, .int (dy i)), (0, .ref qM), (1, .int body), (2, .int measure), (3, .int limit)]) hx hb dX6_dayAhead_61 hl (k := 2) rfl (nI_1 i) (by decide) rfl (fun ls hl => ?_)
          refine lv_goto (tgt := 6) hx hb dX6_dayAhead_64 (by decide) ?_
          exact ih_1 (i + 1) (kLast bd ms dy body measure limit i) (i + 1) (by omega) (by simp [kLast, c_2, Nat.not_le.mpr c_2, c_3]) rfl ls (lv_sub hl [0, 1, 3, 4, 5, 6] rfl) (by omega)
        · skip
          refine lv_iload hx hb dX6_dayAhead_39 (lv_at hl 0 rfl) ?_
          refine lv_iload_n hx hb dX6_dayAhead_41 rfl (lv_at hl 6 rfl) ?_
          refine lv_icmp_ge (tgt := 57) hx hb dX6_dayAhead_42 (by decide) (fun c_4 => ?_) (fun c_4 => ?_)
          · skip
            refine lv_iload hx hb dX6_dayAhead_57 (lv_at hl 2 rfl) ?_
            refine lv_istore (lv' := [(4, .int (kLast bd ms dy body measure limit i)), (6, .int (dy i)), (5, .int (nI i)), (0, .ref qM), (1, .int body), (2, .int measure), (3, .int limit)]) hx hb dX6_dayAhead_59 hl (by decide) rfl (fun ls hl => ?_)
            refine lv_iinc (v := nI (i + 1)) (lv' := [(5, .int (nI (i + 1))), (4, .int (kLast bd ms dy body measure limit i)), (6, .int (dy i)), (0, .ref qM), (1, .int body), (2, .int measure), (3, .int limit)]) hx hb dX6_dayAhead_61 hl (k := 2) rfl (nI_1 i) (by decide) rfl (fun ls hl => ?_)
            refine lv_goto (tgt := 6) hx hb dX6_dayAhead_64 (by decide) ?_
            exact ih_1 (i + 1) (kLast bd ms dy body measure limit i) (i + 1) (by omega) (by simp [kLast, c_2, Nat.not_le.mpr c_2, c_3, c_4, Int32.not_lt.mpr c_4]) rfl ls (lv_sub hl [0, 1, 3, 4, 5, 6] rfl) (by omega)
          · skip
            refine lv_iload hx hb dX6_dayAhead_45 (lv_at hl 0 rfl) ?_
            refine lv_iload hx hb dX6_dayAhead_47 (lv_at hl 2 rfl) ?_
            refine lv_icmp_le (tgt := 57) hx hb dX6_dayAhead_49 (by decide) (fun c_5 => ?_) (fun c_5 => ?_)
            · skip
              refine lv_iload hx hb dX6_dayAhead_57 (lv_at hl 2 rfl) ?_
              refine lv_istore (lv' := [(4, .int (kLast bd ms dy body measure limit i)), (6, .int (dy i)), (5, .int (nI i)), (0, .ref qM), (1, .int body), (2, .int measure), (3, .int limit)]) hx hb dX6_dayAhead_59 hl (by decide) rfl (fun ls hl => ?_)
              refine lv_iinc (v := nI (i + 1)) (lv' := [(5, .int (nI (i + 1))), (4, .int (kLast bd ms dy body measure limit i)), (6, .int (dy i)), (0, .ref qM), (1, .int body), (2, .int measure), (3, .int limit)]) hx hb dX6_dayAhead_61 hl (k := 2) rfl (nI_1 i) (by decide) rfl (fun ls hl => ?_)
              refine lv_goto (tgt := 6) hx hb dX6_dayAhead_64 (by decide) ?_
              exact ih_1 (i + 1) (kLast bd ms dy body measure limit i) (i + 1) (by omega) (by simp [kLast, c_2, Nat.not_le.mpr c_2, c_3, c_4, Int32.not_le.mp c_4, c_5, Int32.not_lt.mpr c_5]) rfl ls (lv_sub hl [0, 1, 3, 4, 5, 6] rfl) (by omega)
            · skip
              refine lv_iload hx hb dX6_dayAhead_52 (lv_at hl 0 rfl) ?_
              refine lv_goto (tgt := 59) hx hb dX6_dayAhead_54 (by decide) ?_
              refine lv_istore (lv' := [(4, .int (dy i)), (6, .int (dy i)), (5, .int (nI i)), (0, .ref qM), (1, .int body), (2, .int measure), (3, .int limit)]) hx hb dX6_dayAhead_59 hl (by decide) rfl (fun ls hl => ?_)
              refine lv_iinc (v := nI (i + 1)) (lv' := [(5, .int (nI (i + 1))), (4, .int (dy i)), (6, .int (dy i)), (0, .ref qM), (1, .int body), (2, .int measure), (3, .int limit)]) hx hb dX6_dayAhead_61 hl (k := 2) rfl (nI_1 i) (by decide) rfl (fun ls hl => ?_)
              refine lv_goto (tgt := 6) hx hb dX6_dayAhead_64 (by decide) ?_
              exact ih_1 (i + 1) (dy i) (i + 1) (by omega) (by simp [kLast, c_2, Nat.not_le.mpr c_2, c_3, c_4, Int32.not_le.mp c_4, c_5, Int32.not_le.mp c_5]) rfl ls (lv_sub hl [0, 1, 3, 4, 5, 6] rfl) (by omega)
  exact lab_6_1 ((told - 0) + 1) 0 (-1) 0 (by omega) (rfl) rfl ls (lv_sub hl [0, 1, 2, 3, 4, 5] rfl) (Nat.lt_succ_self _)
abbrev rm_X6_measureOn : Room := { frames := 1, cells := 0, slots := 0, locals := 23 }
set_option maxHeartbeats 4000000 in
set_option maxRecDepth 100000 in
theorem c_X6_measureOn (l : Launch) (G : va_G) (cI cZ : ClassId) (qM : Nat) (qM1 : Nat) (qM2 : Nat) (qM3 : Nat) (qM4 : Nat) (qM5 : Nat) (qM6 : Nat) (qM7 : Nat) (qM8 : Nat) (qM9 : Nat) (qM10 : Nat) (qM11 : Nat) (qM12 : Nat) (qM13 : Nat) (hd : Nat → Int32) (bd : Nat → Int32) (ms : Nat → Int32) (dy : Nat → Int32) (vl : Nat → Int32) (hbt : Nat → Int32) (k0 : Nat → Int32) (k1 : Nat → Int32) (k2 : Nat → Int32) (k3 : Nat → Int32) (k4 : Nat → Int32) (sn : Nat → Nat) (cor : Nat → Int32) (jn : Nat → Nat) (cu : Nat → Nat) (se : Nat → Nat) (fi : Nat → Nat) (pr : Nat → Nat) (xx : Nat → Int32) (yy : Nat → Int32) (wn : Nat → Nat) (hn : Nat → Nat) (on : Nat → Nat) (be : Nat → Nat) (told : Nat) (pts : Nat) (pcs : Nat) (sms : Nat) (wd : Nat) (ck : Nat) (nc : Nat) (lt : Nat) (en : Nat) (bl : Nat) (bn : Nat) (body : Int32) (measure : Int32) (day : Int32) (hTo : told ≤ 40) (hTi : ∀ i, i < told → vp_in (hd i) 4) (hm : vp_in measure 6) : Met l yX6_measureOn wsX6_measureOn rm_X6_measureOn (kx_Pr G cI cZ [(qM, .inr (6, [.int (nI told), .ref qM1, .ref qM2, .int (nI pts), .ref qM3, .int (nI pcs), .ref qM4, .ref qM5, .int (nI sms), .ref qM6, .int (nI wd), .int (nI ck), .int (nI nc), .ref qM7, .ref qM8, .ref qM9, .ref qM10, .ref qM11, .ref qM12, .ref qM13, .int (nI lt), .int (nI en), .int (nI bl), .int (nI bn)])), (qM1, .inl (cI, 200, .inl (il5 hd bd ms dy vl))), (qM2, .inl (cI, 24, .inl hbt)), (qM3, .inl (cI, 100, .inl (il5 k0 k1 k2 k3 k4))), (qM4, .inl (cI, 7, .inl (fun k => nI (sn k)))), (qM5, .inl (cI, 56, .inl cor)), (qM6, .inl (cI, 40, .inl (fun k => nI (jn k)))), (qM7, .inl (cI, 24, .inl (fun k => nI (i4 cu se fi pr k)))), (qM8, .inl (cI, 20, .inl xx)), (qM9, .inl (cI, 20, .inl yy)), (qM10, .inl (cI, 7, .inl (fun k => nI (wn k)))), (qM11, .inl (cI, 7, .inl (fun k => nI (hn k)))), (qM12, .inl (cI, 7, .inl (fun k => nI (on k)))), (qM13, .inl (cI, 7, .inl (fun k => nI (be k))))] [.ref qM, .int body, .int measure, .int day]) (QcRead (kMean hd bd ms dy vl hbt told body measure day)) 0 0 (fun _ => False) := by
  refine Met.ofW (cc := cX6_measureOn) (maxL := 7) (ret := (some .int)) (by decide) rfl ?_
  intro p e s m args below meth c s₁ B hml hv
  obtain ⟨rfl, hP, hK⟩ := hv
  have hx := B.exec
  have hb := B.bytes
  have hr := B.returns
  have hts := atoms_spec (ws := wsX6_measureOn) B.pre
  have hown : s.vm.findClass RX6 = some m.cls := findClass_of_methodNamed B.named
  have hlocks := B.notSynchronized
  have hl := lv_entry ([.ref qM, .int body, .int measure, .int day]) (n := 7) (Nat.le_of_ble_eq_true rfl)
  rw [lg_entry_eq]
  generalize (lg_sl ([.ref qM, .int body, .int measure, .int day]) ++ List.replicate (7 - (lg_sl ([.ref qM, .int body, .int measure, .int day])).length) Slot.unset).toArray = ls at hl ⊢
  have hl : lv_has ls 7 [(0, .ref qM), (1, .int body), (2, .int measure), (3, .int day)] := hl
  refine lv_iconst (v := 0) hx hb dX6_measureOn_0 (by decide) ?_
  refine lv_istore (lv' := [(4, .int 0), (0, .ref qM), (1, .int body), (2, .int measure), (3, .int day)]) hx hb dX6_measureOn_1 hl (by decide) rfl (fun ls hl => ?_)
  refine lv_iconst (v := 0) hx hb dX6_measureOn_3 (by decide) ?_
  refine lv_istore (lv' := [(5, .int 0), (4, .int 0), (0, .ref qM), (1, .int body), (2, .int measure), (3, .int day)]) hx hb dX6_measureOn_4 hl (by decide) rfl (fun ls hl => ?_)
  refine lv_iconst (v := 0) hx hb dX6_measureOn_6 (by decide) ?_
  refine lv_istore (lv' := [(6, .int 0), (5, .int 0), (4, .int 0), (0, .ref qM), (1, .int body), (2, .int measure), (3, .int day)]) hx hb dX6_measureOn_7 hl (by decide) rfl (fun ls hl => ?_)
  have lab_9_1 : ∀ (nn_1 : Nat) (i : Nat) (z1_0 : Int32) (z1_1 : Nat) (z1_2 : Nat) (hi : i ≤ told) (ez1_0 : (kSum hd bd ms dy vl hbt body measure day i) = z1_0) (ez1_1 : (kCnt bd ms dy body measure day i) = z1_1) (ez1_2 : i = z1_2) (ls : Array Slot) (hl : lv_has ls 7 [(6, .int (nI z1_2)), (5, .int (nI z1_1)), (4, .int z1_0), (0, .ref qM), (1, .int body), (2, .int measure), (3, .int day)]), (told - i) < nn_1 → W p l e (headSpec wsX6_measureOn rm_X6_measureOn).room s m ([.ref qM, .int body, .int measure, .int day] : List Value).toArray below meth c s.heap [] 0 0 (MQ below (QcRead (kMean hd bd ms dy vl hbt told body measure day)) ([.ref qM, .int body, .int measure, .int day] : List Value).toArray s 0 0 (fun _ => False)) (F0 m 9 ls []) := by
    intro nn_1
    induction nn_1 with
    | zero => intro i z1_0 z1_1 z1_2 hi ez1_0 ez1_1 ez1_2 ls hl hn; exact absurd hn (Nat.not_lt_zero _)
    | succ nn_1 ih_1 =>
      intro i z1_0 z1_1 z1_2 hi ez1_0 ez1_1 ez1_2 ls hl hn_1
      subst ez1_0
      subst ez1_1
      subst ez1_2
      refine lv_iload hx hb dX6_measureOn_9 (lv_at hl 0 rfl) ?_
      refine lv_aload_n hx hb dX6_measureOn_11 rfl (lv_at hl 3 rfl) ?_
      refine va_get (D := G) (ci := 6) (v := .int (nI told)) (C := RX6) (T := TX6) (N := 24) hx hb hts (fun _ h => List.mem_cons_of_mem _ (List.mem_append_right _ h)) hown hK.1 hP 0 rfl rfl 0 (by decide) (hts (.fieldLink RX6 67 "TailorHouseModel" "tellings" "I") (List.mem_of_getElem? (i := 1) rfl)) (fun _ h9 => h9) rfl dX6_measureOn_12 ?_
      refine kx_geN hx hb i told (by omega) (by omega) (tgt := 89) dX6_measureOn_15 (by decide) (fun c_2 => ?_) (fun c_2 => ?_)
      · skip
        have hE : told = i := by omega
        subst hE
        refine lv_iload hx hb dX6_measureOn_89 (lv_at hl 1 rfl) ?_
        refine lv_if_ne (tgt := 98) hx hb dX6_measureOn_91 (by decide) (fun c_3 => ?_) (fun c_3 => ?_)
        · skip
          refine lv_iload hx hb dX6_measureOn_98 (lv_at hl 2 rfl) ?_
          refine lv_iload hx hb dX6_measureOn_100 (lv_at hl 1 rfl) ?_
          refine lv_idiv hx hb dX6_measureOn_102 (c_3) ?_
          exact kx_iret hx hb hr (v := ((kSum hd bd ms dy vl hbt body measure day told) / (nI (kCnt bd ms dy body measure day told)))) (by simp [kMean, kdiv, c_2, Nat.not_lt.mpr c_2, c_3]) dX6_measureOn_103 hlocks
        · skip
          refine lv_iconst (v := 0) hx hb dX6_measureOn_94 (by decide) ?_
          refine lv_goto (tgt := 103) hx hb dX6_measureOn_95 (by decide) ?_
          exact kx_iret hx hb hr (v := 0) (by simp [kMean, kdiv, c_2, Nat.not_lt.mpr c_2, c_3]) dX6_measureOn_103 hlocks
      · skip
        refine lv_aload_n hx hb dX6_measureOn_18 rfl (lv_at hl 3 rfl) ?_
        refine lv_iload hx hb dX6_measureOn_19 (lv_at hl 0 rfl) ?_
        refine lv_iload_n hx hb dX6_measureOn_21 rfl (lv_at hl 4 rfl) ?_
        refine lv_iload_n hx hb dX6_measureOn_22 rfl (lv_at hl 5 rfl) ?_
        refine kx_ri (va_runV (As := [.int (nI i), .int body, .int measure]) (rest := []) ⟨hx, hb, hml, hown, hts⟩ (c_X6_isOf l G cI cZ qM qM1 qM2 qM3 qM4 qM5 qM6 qM7 qM8 qM9 qM10 qM11 qM12 qM13 hd bd ms dy vl hbt k0 k1 k2 k3 k4 sn cor jn cu se fi pr xx yy wn hn on be told pts pcs sms wd ck nc lt en bl bn i body measure (by first | assumption | omega)) (cwV 3 hts gX6_measureOn_X6_isOf rfl rfl rfl (by decide +kernel) ⟨(Nat.le_of_ble_eq_true rfl), (Nat.le_of_ble_eq_true rfl)⟩) (kx_preR hK (kx_sub 0 14 hP rfl) 0 rfl rfl) rfl rfl hl.1 rfl (lv_room (Nat.le_of_ble_eq_true rfl)) dX6_measureOn_23 ⟨Nat.zero_le _, Nat.zero_le _⟩) ?_
        refine kx_ifeqB hx hb (bd i = body ∧ ms i = measure) (tgt := 83) dX6_measureOn_26 (by decide) (fun c_4 => ?_) (fun c_4 => ?_)
        · skip
          refine lv_iinc (v := nI (i + 1)) (lv' := [(6, .int (nI (i + 1))), (5, .int (nI (kCnt bd ms dy body measure day i))), (4, .int (kSum hd bd ms dy vl hbt body measure day i)), (0, .ref qM), (1, .int body), (2, .int measure), (3, .int day)]) hx hb dX6_measureOn_83 hl (k := 0) rfl (nI_1 i) (by decide) rfl (fun ls hl => ?_)
          refine lv_goto (tgt := 9) hx hb dX6_measureOn_86 (by decide) ?_
          exact ih_1 (i + 1) (kSum hd bd ms dy vl hbt body measure day i) (kCnt bd ms dy body measure day i) (i + 1) (by omega) (by simp [kSum, kCnt, c_2, Nat.not_le.mpr c_2, c_4]) (by simp [kSum, kCnt, c_2, Nat.not_le.mpr c_2, c_4]) rfl ls (lv_sub hl [0, 1, 2, 3, 4, 5, 6] rfl) (by omega)
        · skip
          refine lv_aload_n hx hb dX6_measureOn_29 rfl (lv_at hl 3 rfl) ?_
          refine va_get (D := G) (ci := 6) (v := .ref qM1) (C := RX6) (T := TX6) (N := 24) hx hb hts (fun _ h => List.mem_cons_of_mem _ (List.mem_append_right _ h)) hown hK.1 hP 0 rfl rfl 1 (by decide) (hts (.fieldLink RX6 7 "TailorHouseModel" "telling" "[I") (List.mem_of_getElem? (i := 2) rfl)) (fun _ h9 => h9) rfl dX6_measureOn_30 ?_
          refine lv_iconst (v := 5) hx hb dX6_measureOn_33 (by decide) ?_
          refine lv_iload hx hb dX6_measureOn_34 (lv_at hl 0 rfl) ?_
          refine kx_imulN hx hb 5 i dX6_measureOn_36 ?_
          refine lv_iconst (v := 3) hx hb dX6_measureOn_37 (by decide) ?_
          refine kx_iaddN hx hb (5 * i) 3 dX6_measureOn_38 ?_
          refine kx_ialdN hx hb hK.1 hP 1 rfl rfl ((5 * i) + 3) (by omega) (by decide) dX6_measureOn_39 ?_
          refine kx_top (y := dy i) (il5_3 hd bd ms dy vl i) ?_
          refine lv_iload_n hx hb dX6_measureOn_40 rfl (lv_at hl 6 rfl) ?_
          refine lv_icmp_ne (tgt := 83) hx hb dX6_measureOn_41 (by decide) (fun c_5 => ?_) (fun c_5 => ?_)
          · skip
            refine lv_iinc (v := nI (i + 1)) (lv' := [(6, .int (nI (i + 1))), (5, .int (nI (kCnt bd ms dy body measure day i))), (4, .int (kSum hd bd ms dy vl hbt body measure day i)), (0, .ref qM), (1, .int body), (2, .int measure), (3, .int day)]) hx hb dX6_measureOn_83 hl (k := 0) rfl (nI_1 i) (by decide) rfl (fun ls hl => ?_)
            refine lv_goto (tgt := 9) hx hb dX6_measureOn_86 (by decide) ?_
            exact ih_1 (i + 1) (kSum hd bd ms dy vl hbt body measure day i) (kCnt bd ms dy body measure day i) (i + 1) (by omega) (by simp [kSum, kCnt, c_2, Nat.not_le.mpr c_2, c_4, c_5]) (by simp [kSum, kCnt, c_2, Nat.not_le.mpr c_2, c_4, c_5]) rfl ls (lv_sub hl [0, 1, 2, 3, 4, 5, 6] rfl) (by omega)
          · skip
            refine lv_iload hx hb dX6_measureOn_44 (lv_at hl 2 rfl) ?_
            refine lv_aload_n hx hb dX6_measureOn_46 rfl (lv_at hl 3 rfl) ?_
            refine va_get (D := G) (ci := 6) (v := .ref qM1) (C := RX6) (T := TX6) (N := 24) hx hb hts (fun _ h => List.mem_cons_of_mem _ (List.mem_append_right _ h)) hown hK.1 hP 0 rfl rfl 1 (by decide) (hts (.fieldLink RX6 7 "TailorHouseModel" "telling" "[I") (List.mem_of_getElem? (i := 2) rfl)) (fun _ h9 => h9) rfl dX6_measureOn_47 ?_
            refine lv_iconst (v := 5) hx hb dX6_measureOn_50 (by decide) ?_
            refine lv_iload hx hb dX6_measureOn_51 (lv_at hl 0 rfl) ?_
            refine kx_imulN hx hb 5 i dX6_measureOn_53 ?_
            refine lv_iconst (v := 4) hx hb dX6_measureOn_54 (by decide) ?_
            refine kx_iaddN hx hb (5 * i) 4 dX6_measureOn_55 ?_
            refine kx_ialdN hx hb hK.1 hP 1 rfl rfl ((5 * i) + 4) (by omega) (by decide) dX6_measureOn_56 ?_
            refine kx_top (y := vl i) (il5_4 hd bd ms dy vl i) ?_
            refine lv_aload_n hx hb dX6_measureOn_57 rfl (lv_at hl 3 rfl) ?_
            refine va_get (D := G) (ci := 6) (v := .ref qM2) (C := RX6) (T := TX6) (N := 24) hx hb hts (fun _ h => List.mem_cons_of_mem _ (List.mem_append_right _ h)) hown hK.1 hP 0 rfl rfl 2 (by decide) (hts (.fieldLink RX6 13 "TailorHouseModel" "habit" "[I") (List.mem_of_getElem? (i := 3) rfl)) (fun _ h9 => h9) rfl dX6_measureOn_58 ?_
            refine lv_bipush (v := 6) hx hb dX6_measureOn_61 (by decide) ?_
            refine lv_aload_n hx hb dX6_measureOn_63 rfl (lv_at hl 3 rfl) ?_
            refine va_get (D := G) (ci := 6) (v := .ref qM1) (C := RX6) (T := TX6) (N := 24) hx hb hts (fun _ h => List.mem_cons_of_mem _ (List.mem_append_right _ h)) hown hK.1 hP 0 rfl rfl 1 (by decide) (hts (.fieldLink RX6 7 "TailorHouseModel" "telling" "[I") (List.mem_of_getElem? (i := 2) rfl)) (fun _ h9 => h9) rfl dX6_measureOn_64 ?_
            refine lv_iconst (v := 5) hx hb dX6_measureOn_67 (by decide) ?_
            refine lv_iload hx hb dX6_measureOn_68 (lv_at hl 0 rfl) ?_
            refine kx_imulN hx hb 5 i dX6_measureOn_70 ?_
            refine kx_ialdN hx hb hK.1 hP 1 rfl rfl (5 * i) (by omega) (by decide) dX6_measureOn_71 ?_
            refine kx_top (y := hd i) (il5_0 hd bd ms dy vl i) ?_
            refine lv_imul hx hb dX6_measureOn_72 ?_
            refine lv_iload_n hx hb dX6_measureOn_73 rfl (lv_at hl 5 rfl) ?_
            refine lv_iadd hx hb dX6_measureOn_74 ?_
            refine va_iald hx hb hK.1 hP 2 0 rfl rfl (kx_hab2 (hTi i (by omega)) hm) dX6_measureOn_75 ?_
            refine kx_top (y := hbt (hd i * 6 + measure).toNatClampNeg) (by rw [Int32.mul_comm 6 (hd i)]) ?_
            refine lv_isub hx hb dX6_measureOn_76 ?_
            refine lv_iadd hx hb dX6_measureOn_77 ?_
            refine lv_istore (lv' := [(4, .int ((kSum hd bd ms dy vl hbt body measure day i) + ((vl i) - (hbt (hd i * 6 + measure).toNatClampNeg)))), (6, .int (nI i)), (5, .int (nI (kCnt bd ms dy body measure day i))), (0, .ref qM), (1, .int body), (2, .int measure), (3, .int day)]) hx hb dX6_measureOn_78 hl (by decide) rfl (fun ls hl => ?_)
            refine lv_iinc (v := nI (kCnt bd ms dy body measure day i + 1)) (lv' := [(5, .int (nI (kCnt bd ms dy body measure day i + 1))), (4, .int ((kSum hd bd ms dy vl hbt body measure day i) + ((vl i) - (hbt (hd i * 6 + measure).toNatClampNeg)))), (6, .int (nI i)), (0, .ref qM), (1, .int body), (2, .int measure), (3, .int day)]) hx hb dX6_measureOn_80 hl (k := 2) rfl (nI_1 (kCnt bd ms dy body measure day i)) (by decide) rfl (fun ls hl => ?_)
            refine lv_iinc (v := nI (i + 1)) (lv' := [(6, .int (nI (i + 1))), (5, .int (nI (kCnt bd ms dy body measure day i + 1))), (4, .int ((kSum hd bd ms dy vl hbt body measure day i) + ((vl i) - (hbt (hd i * 6 + measure).toNatClampNeg)))), (0, .ref qM), (1, .int body), (2, .int measure), (3, .int day)]) hx hb dX6_measureOn_83 hl (k := 2) rfl (nI_1 i) (by decide) rfl (fun ls hl => ?_)
            refine lv_goto (tgt := 9) hx hb dX6_measureOn_86 (by decide) ?_
            exact ih_1 (i + 1) ((kSum hd bd ms dy vl hbt body measure day i) + ((vl i) - (hbt (hd i * 6 + measure).toNatClampNeg))) (kCnt bd ms dy body measure day i + 1) (i + 1) (by omega) (by simp [kSum, kCnt, c_2, Nat.not_le.mpr c_2, c_4, c_5]) (by simp [kSum, kCnt, c_2, Nat.not_le.mpr c_2, c_4, c_5]) rfl ls (lv_sub hl [0, 1, 2, 3, 4, 5, 6] rfl) (by omega)
  exact lab_9_1 ((told - 0) + 1) 0 0 0 0 (by omega) (rfl) (rfl) rfl ls (lv_sub hl [0, 1, 2, 3, 4, 5, 6] rfl) (Nat.lt_succ_self _)
abbrev rm_X6_measureOf : Room := { frames := 2, cells := 0, slots := 0, locals := 49 }
set_option maxHeartbeats 4000000 in
set_option maxRecDepth 100000 in
theorem c_X6_measureOf (l : Launch) (G : va_G) (cI cZ : ClassId) (qM : Nat) (qM1 : Nat) (qM2 : Nat) (qM3 : Nat) (qM4 : Nat) (qM5 : Nat) (qM6 : Nat) (qM7 : Nat) (qM8 : Nat) (qM9 : Nat) (qM10 : Nat) (qM11 : Nat) (qM12 : Nat) (qM13 : Nat) (hd : Nat → Int32) (bd : Nat → Int32) (ms : Nat → Int32) (dy : Nat → Int32) (vl : Nat → Int32) (hbt : Nat → Int32) (k0 : Nat → Int32) (k1 : Nat → Int32) (k2 : Nat → Int32) (k3 : Nat → Int32) (k4 : Nat → Int32) (sn : Nat → Nat) (cor : Nat → Int32) (jn : Nat → Nat) (cu : Nat → Nat) (se : Nat → Nat) (fi : Nat → Nat) (pr : Nat → Nat) (xx : Nat → Int32) (yy : Nat → Int32) (wn : Nat → Nat) (hn : Nat → Nat) (on : Nat → Nat) (be : Nat → Nat) (told : Nat) (pts : Nat) (pcs : Nat) (sms : Nat) (wd : Nat) (ck : Nat) (nc : Nat) (lt : Nat) (en : Nat) (bl : Nat) (bn : Nat) (body : Int32) (measure : Int32) (hTo : told ≤ 40) (hTi : ∀ i, i < told → vp_in (hd i) 4) (hm : vp_in measure 6) : Met l yX6_measureOf wsX6_measureOf rm_X6_measureOf (kx_Pr G cI cZ [(qM, .inr (6, [.int (nI told), .ref qM1, .ref qM2, .int (nI pts), .ref qM3, .int (nI pcs), .ref qM4, .ref qM5, .int (nI sms), .ref qM6, .int (nI wd), .int (nI ck), .int (nI nc), .ref qM7, .ref qM8, .ref qM9, .ref qM10, .ref qM11, .ref qM12, .ref qM13, .int (nI lt), .int (nI en), .int (nI bl), .int (nI bn)])), (qM1, .inl (cI, 200, .inl (il5 hd bd ms dy vl))), (qM2, .inl (cI, 24, .inl hbt)), (qM3, .inl (cI, 100, .inl (il5 k0 k1 k2 k3 k4))), (qM4, .inl (cI, 7, .inl (fun k => nI (sn k)))), (qM5, .inl (cI, 56, .inl cor)), (qM6, .inl (cI, 40, .inl (fun k => nI (jn k)))), (qM7, .inl (cI, 24, .inl (fun k => nI (i4 cu se fi pr k)))), (qM8, .inl (cI, 20, .inl xx)), (qM9, .inl (cI, 20, .inl yy)), (qM10, .inl (cI, 7, .inl (fun k => nI (wn k)))), (qM11, .inl (cI, 7, .inl (fun k => nI (hn k)))), (qM12, .inl (cI, 7, .inl (fun k => nI (on k)))), (qM13, .inl (cI, 7, .inl (fun k => nI (be k))))] [.ref qM, .int body, .int measure]) (QcRead (kLat20 hd bd ms dy vl hbt told body measure)) 0 0 (fun _ => False) := by
  refine Met.ofW (cc := cX6_measureOf) (maxL := 3) (ret := (some .int)) (by decide) rfl ?_
  intro p e s m args below meth c s₁ B hml hv
  obtain ⟨rfl, hP, hK⟩ := hv
  have hx := B.exec
  have hb := B.bytes
  have hr := B.returns
  have hts := atoms_spec (ws := wsX6_measureOf) B.pre
  have hown : s.vm.findClass RX6 = some m.cls := findClass_of_methodNamed B.named
  have hlocks := B.notSynchronized
  have hl := lv_entry ([.ref qM, .int body, .int measure]) (n := 3) (Nat.le_of_ble_eq_true rfl)
  rw [lg_entry_eq]
  generalize (lg_sl ([.ref qM, .int body, .int measure]) ++ List.replicate (3 - (lg_sl ([.ref qM, .int body, .int measure])).length) Slot.unset).toArray = ls at hl ⊢
  have hl : lv_has ls 3 [(0, .ref qM), (1, .int body), (2, .int measure)] := hl
  refine lv_aload_n hx hb dX6_measureOf_0 rfl (lv_at hl 0 rfl) ?_
  refine lv_iload_n hx hb dX6_measureOf_1 rfl (lv_at hl 1 rfl) ?_
  refine lv_iload_n hx hb dX6_measureOf_2 rfl (lv_at hl 2 rfl) ?_
  refine lv_aload_n hx hb dX6_measureOf_3 rfl (lv_at hl 0 rfl) ?_
  refine lv_iload_n hx hb dX6_measureOf_4 rfl (lv_at hl 1 rfl) ?_
  refine lv_iload_n hx hb dX6_measureOf_5 rfl (lv_at hl 2 rfl) ?_
  refine lv_sipush (v := 20000) hx hb dX6_measureOf_6 (by decide) ?_
  refine kx_ri (va_runV (As := [.int body, .int measure, .int 20000]) (rest := [.int measure, .int body, .ref qM]) ⟨hx, hb, hml, hown, hts⟩ (c_X6_dayAhead l G cI cZ qM qM1 qM2 qM3 qM4 qM5 qM6 qM7 qM8 qM9 qM10 qM11 qM12 qM13 hd bd ms dy vl hbt k0 k1 k2 k3 k4 sn cor jn cu se fi pr xx yy wn hn on be told pts pcs sms wd ck nc lt en bl bn body measure 20000 (by first | assumption | omega)) (cwV 3 hts gX6_measureOf_X6_dayAhead rfl rfl rfl (by decide +kernel) ⟨(Nat.le_of_ble_eq_true rfl), (Nat.le_of_ble_eq_true rfl)⟩) (kx_preR hK (kx_sub 0 14 hP rfl) 0 rfl rfl) rfl rfl hl.1 rfl (lv_room (Nat.le_of_ble_eq_true rfl)) dX6_measureOf_9 ⟨Nat.zero_le _, Nat.zero_le _⟩) ?_
  refine kx_ri (va_runV (As := [.int body, .int measure, .int (kLast bd ms dy body measure 20000 told)]) (rest := []) ⟨hx, hb, hml, hown, hts⟩ (c_X6_measureOn l G cI cZ qM qM1 qM2 qM3 qM4 qM5 qM6 qM7 qM8 qM9 qM10 qM11 qM12 qM13 hd bd ms dy vl hbt k0 k1 k2 k3 k4 sn cor jn cu se fi pr xx yy wn hn on be told pts pcs sms wd ck nc lt en bl bn body measure (kLast bd ms dy body measure 20000 told) (by first | assumption | omega) (by first | assumption | omega) (by first | assumption | omega)) (cwV 3 hts gX6_measureOf_X6_measureOn rfl rfl rfl (by decide +kernel) ⟨(Nat.le_of_ble_eq_true rfl), (Nat.le_of_ble_eq_true rfl)⟩) (kx_preR hK (kx_sub 0 14 hP rfl) 0 rfl rfl) rfl rfl hl.1 rfl (lv_room (Nat.le_of_ble_eq_true rfl)) dX6_measureOf_12 ⟨Nat.zero_le _, Nat.zero_le _⟩) ?_
  exact kx_iret hx hb hr (v := (kMean hd bd ms dy vl hbt told body measure (kLast bd ms dy body measure 20000 told))) (rfl) dX6_measureOf_15 hlocks
abbrev rm_X6_measure : Room := { frames := 3, cells := 0, slots := 0, locals := 71 }
set_option maxHeartbeats 4000000 in
set_option maxRecDepth 100000 in
theorem c_X6_measure (l : Launch) (G : va_G) (cI cZ : ClassId) (qM : Nat) (qM1 : Nat) (qM2 : Nat) (qM3 : Nat) (qM4 : Nat) (qM5 : Nat) (qM6 : Nat) (qM7 : Nat) (qM8 : Nat) (qM9 : Nat) (qM10 : Nat) (qM11 : Nat) (qM12 : Nat) (qM13 : Nat) (hd : Nat → Int32) (bd : Nat → Int32) (ms : Nat → Int32) (dy : Nat → Int32) (vl : Nat → Int32) (hbt : Nat → Int32) (k0 : Nat → Int32) (k1 : Nat → Int32) (k2 : Nat → Int32) (k3 : Nat → Int32) (k4 : Nat → Int32) (sn : Nat → Nat) (cor : Nat → Int32) (jn : Nat → Nat) (cu : Nat → Nat) (se : Nat → Nat) (fi : Nat → Nat) (pr : Nat → Nat) (xx : Nat → Int32) (yy : Nat → Int32) (wn : Nat → Nat) (hn : Nat → Nat) (on : Nat → Nat) (be : Nat → Nat) (told : Nat) (pts : Nat) (pcs : Nat) (sms : Nat) (wd : Nat) (ck : Nat) (nc : Nat) (lt : Nat) (en : Nat) (bl : Nat) (bn : Nat) (body : Int32) (measure : Int32) (hTo : told ≤ 40) (hTi : ∀ i, i < told → vp_in (hd i) 4) : Met l yX6_measure wsX6_measure rm_X6_measure (kx_Pr G cI cZ [(qM, .inr (6, [.int (nI told), .ref qM1, .ref qM2, .int (nI pts), .ref qM3, .int (nI pcs), .ref qM4, .ref qM5, .int (nI sms), .ref qM6, .int (nI wd), .int (nI ck), .int (nI nc), .ref qM7, .ref qM8, .ref qM9, .ref qM10, .ref qM11, .ref qM12, .ref qM13, .int (nI lt), .int (nI en), .int (nI bl), .int (nI bn)])), (qM1, .inl (cI, 200, .inl (il5 hd bd ms dy vl))), (qM2, .inl (cI, 24, .inl hbt)), (qM3, .inl (cI, 100, .inl (il5 k0 k1 k2 k3 k4))), (qM4, .inl (cI, 7, .inl (fun k => nI (sn k)))), (qM5, .inl (cI, 56, .inl cor)), (qM6, .inl (cI, 40, .inl (fun k => nI (jn k)))), (qM7, .inl (cI, 24, .inl (fun k => nI (i4 cu se fi pr k)))), (qM8, .inl (cI, 20, .inl xx)), (qM9, .inl (cI, 20, .inl yy)), (qM10, .inl (cI, 7, .inl (fun k => nI (wn k)))), (qM11, .inl (cI, 7, .inl (fun k => nI (hn k)))), (qM12, .inl (cI, 7, .inl (fun k => nI (on k)))), (qM13, .inl (cI, 7, .inl (fun k => nI (be k))))] [.ref qM, .int body, .int measure]) (QcRead (if (0 ≤ body ∧ body ≤ 5) ∧ (0 ≤ measure ∧ measure ≤ 5) then kLat20 hd bd ms dy vl hbt told body measure else -2)) 0 0 (fun _ => False) := by
  refine Met.ofW (cc := cX6_measure) (maxL := 3) (ret := (some .int)) (by decide) rfl ?_
  intro p e s m args below meth c s₁ B hml hv
  obtain ⟨rfl, hP, hK⟩ := hv
  have hx := B.exec
  have hb := B.bytes
  have hr := B.returns
  have hts := atoms_spec (ws := wsX6_measure) B.pre
  have hown : s.vm.findClass RX6 = some m.cls := findClass_of_methodNamed B.named
  have hlocks := B.notSynchronized
  have hl := lv_entry ([.ref qM, .int body, .int measure]) (n := 3) (Nat.le_of_ble_eq_true rfl)
  rw [lg_entry_eq]
  generalize (lg_sl ([.ref qM, .int body, .int measure]) ++ List.replicate (3 - (lg_sl ([.ref qM, .int body, .int measure])).length) Slot.unset).toArray = ls at hl ⊢
  have hl : lv_has ls 3 [(0, .ref qM), (1, .int body), (2, .int measure)] := hl
  refine lv_iload_n hx hb dX6_measure_0 rfl (lv_at hl 1 rfl) ?_
  refine kx_ri (va_runS (As := [.int body]) (rest := []) ⟨hx, hb, hml, hown, hts⟩ (c_X6_isBody l body) (va_cwS 1 hts gX6_measure_X6_isBody rfl rfl rfl (by decide +kernel) ⟨(Nat.le_of_ble_eq_true rfl), (Nat.le_of_ble_eq_true rfl)⟩) kx_preS rfl rfl hl.1 rfl (lv_room (Nat.le_of_ble_eq_true rfl)) dX6_measure_1 ⟨Nat.zero_le _, Nat.zero_le _⟩) ?_
  refine kx_ifeqB hx hb (0 ≤ body ∧ body ≤ 5) (tgt := 23) dX6_measure_4 (by decide) (fun c_1 => ?_) (fun c_1 => ?_)
  · skip
    refine lv_bipush (v := (-2)) hx hb dX6_measure_23 (by decide) ?_
    exact kx_iret hx hb hr (v := (-2)) (by rw [if_neg (fun h => by obtain ⟨h1, h2⟩ := h; first | exact absurd (by assumption) c_1 | contradiction)]) dX6_measure_25 hlocks
  · skip
    refine lv_iload_n hx hb dX6_measure_7 rfl (lv_at hl 2 rfl) ?_
    refine kx_ri (va_runS (As := [.int measure]) (rest := []) ⟨hx, hb, hml, hown, hts⟩ (c_X6_isBody l measure) (va_cwS 1 hts gX6_measure_X6_isBody rfl rfl rfl (by decide +kernel) ⟨(Nat.le_of_ble_eq_true rfl), (Nat.le_of_ble_eq_true rfl)⟩) kx_preS rfl rfl hl.1 rfl (lv_room (Nat.le_of_ble_eq_true rfl)) dX6_measure_8 ⟨Nat.zero_le _, Nat.zero_le _⟩) ?_
    refine kx_ifeqB hx hb (0 ≤ measure ∧ measure ≤ 5) (tgt := 23) dX6_measure_11 (by decide) (fun c_2 => ?_) (fun c_2 => ?_)
    · skip
      refine lv_bipush (v := (-2)) hx hb dX6_measure_23 (by decide) ?_
      exact kx_iret hx hb hr (v := (-2)) (by rw [if_neg (fun h => by obtain ⟨h1, h2⟩ := h; first | exact absurd (by assumption) c_2 | contradiction)]) dX6_measure_25 hlocks
    · skip
      refine lv_aload_n hx hb dX6_measure_14 rfl (lv_at hl 0 rfl) ?_
      refine lv_iload_n hx hb dX6_measure_15 rfl (lv_at hl 1 rfl) ?_
      refine lv_iload_n hx hb dX6_measure_16 rfl (lv_at hl 2 rfl) ?_
      refine kx_ri (va_runV (As := [.int body, .int measure]) (rest := []) ⟨hx, hb, hml, hown, hts⟩ (c_X6_measureOf l G cI cZ qM qM1 qM2 qM3 qM4 qM5 qM6 qM7 qM8 qM9 qM10 qM11 qM12 qM13 hd bd ms dy vl hbt k0 k1 k2 k3 k4 sn cor jn cu se fi pr xx yy wn hn on be told pts pcs sms wd ck nc lt en bl bn body measure (by first | assumption | omega) (by first | assumption | omega) (kx_vin (k := 5) (by decide) c_2.1 c_2.2)) (cwV 2 hts gX6_measure_X6_measureOf rfl rfl rfl (by decide +kernel) ⟨(Nat.le_of_ble_eq_true rfl), (Nat.le_of_ble_eq_true rfl)⟩) (kx_preR hK (kx_sub 0 14 hP rfl) 0 rfl rfl) rfl rfl hl.1 rfl (lv_room (Nat.le_of_ble_eq_true rfl)) dX6_measure_17 ⟨Nat.zero_le _, Nat.zero_le _⟩) ?_
      refine lv_goto (tgt := 25) hx hb dX6_measure_20 (by decide) ?_
      exact kx_iret hx hb hr (v := (kLat20 hd bd ms dy vl hbt told body measure)) (by rw [if_pos ⟨c_1, c_2⟩]) dX6_measure_25 hlocks
abbrev rm_X6_grown : Room := { frames := 2, cells := 0, slots := 0, locals := 49 }
set_option maxHeartbeats 4000000 in
set_option maxRecDepth 100000 in
theorem c_X6_grown (l : Launch) (G : va_G) (cI cZ : ClassId) (qM : Nat) (qM1 : Nat) (qM2 : Nat) (qM3 : Nat) (qM4 : Nat) (qM5 : Nat) (qM6 : Nat) (qM7 : Nat) (qM8 : Nat) (qM9 : Nat) (qM10 : Nat) (qM11 : Nat) (qM12 : Nat) (qM13 : Nat) (hd : Nat → Int32) (bd : Nat → Int32) (ms : Nat → Int32) (dy : Nat → Int32) (vl : Nat → Int32) (hbt : Nat → Int32) (k0 : Nat → Int32) (k1 : Nat → Int32) (k2 : Nat → Int32) (k3 : Nat → Int32) (k4 : Nat → Int32) (sn : Nat → Nat) (cor : Nat → Int32) (jn : Nat → Nat) (cu : Nat → Nat) (se : Nat → Nat) (fi : Nat → Nat) (pr : Nat → Nat) (xx : Nat → Int32) (yy : Nat → Int32) (wn : Nat → Nat) (hn : Nat → Nat) (on : Nat → Nat) (be : Nat → Nat) (told : Nat) (pts : Nat) (pcs : Nat) (sms : Nat) (wd : Nat) (ck : Nat) (nc : Nat) (lt : Nat) (en : Nat) (bl : Nat) (bn : Nat) (body : Int32) (measure : Int32) (hTo : told ≤ 40) (hTi : ∀ i, i < told → vp_in (hd i) 4) : Met l yX6_grown wsX6_grown rm_X6_grown (kx_Pr G cI cZ [(qM, .inr (6, [.int (nI told), .ref qM1, .ref qM2, .int (nI pts), .ref qM3, .int (nI pcs), .ref qM4, .ref qM5, .int (nI sms), .ref qM6, .int (nI wd), .int (nI ck), .int (nI nc), .ref qM7, .ref qM8, .ref qM9, .ref qM10, .ref qM11, .ref qM12, .ref qM13, .int (nI lt), .int (nI en), .int (nI bl), .int (nI bn)])), (qM1, .inl (cI, 200, .inl (il5 hd bd ms dy vl))), (qM2, .inl (cI, 24, .inl hbt)), (qM3, .inl (cI, 100, .inl (il5 k0 k1 k2 k3 k4))), (qM4, .inl (cI, 7, .inl (fun k => nI (sn k)))), (qM5, .inl (cI, 56, .inl cor)), (qM6, .inl (cI, 40, .inl (fun k => nI (jn k)))), (qM7, .inl (cI, 24, .inl (fun k => nI (i4 cu se fi pr k)))), (qM8, .inl (cI, 20, .inl xx)), (qM9, .inl (cI, 20, .inl yy)), (qM10, .inl (cI, 7, .inl (fun k => nI (wn k)))), (qM11, .inl (cI, 7, .inl (fun k => nI (hn k)))), (qM12, .inl (cI, 7, .inl (fun k => nI (on k)))), (qM13, .inl (cI, 7, .inl (fun k => nI (be k))))] [.ref qM, .int body, .int measure]) (QcRead (if (0 ≤ body ∧ body ≤ 5) ∧ (0 ≤ measure ∧ measure ≤ 5) then kGrow20 hd bd ms dy vl hbt told body measure else -10000)) 0 0 (fun _ => False) := by
  refine Met.ofW (cc := cX6_grown) (maxL := 5) (ret := (some .int)) (by decide) rfl ?_
  intro p e s m args below meth c s₁ B hml hv
  obtain ⟨rfl, hP, hK⟩ := hv
  have hx := B.exec
  have hb := B.bytes
  have hr := B.returns
  have hts := atoms_spec (ws := wsX6_grown) B.pre
  have hown : s.vm.findClass RX6 = some m.cls := findClass_of_methodNamed B.named
  have hlocks := B.notSynchronized
  have hl := lv_entry ([.ref qM, .int body, .int measure]) (n := 5) (Nat.le_of_ble_eq_true rfl)
  rw [lg_entry_eq]
  generalize (lg_sl ([.ref qM, .int body, .int measure]) ++ List.replicate (5 - (lg_sl ([.ref qM, .int body, .int measure])).length) Slot.unset).toArray = ls at hl ⊢
  have hl : lv_has ls 5 [(0, .ref qM), (1, .int body), (2, .int measure)] := hl
  refine lv_iload_n hx hb dX6_grown_0 rfl (lv_at hl 1 rfl) ?_
  refine kx_ri (va_runS (As := [.int body]) (rest := []) ⟨hx, hb, hml, hown, hts⟩ (c_X6_isBody l body) (va_cwS 1 hts gX6_grown_X6_isBody rfl rfl rfl (by decide +kernel) ⟨(Nat.le_of_ble_eq_true rfl), (Nat.le_of_ble_eq_true rfl)⟩) kx_preS rfl rfl hl.1 rfl (lv_room (Nat.le_of_ble_eq_true rfl)) dX6_grown_1 ⟨Nat.zero_le _, Nat.zero_le _⟩) ?_
  refine kx_ifeqB hx hb (0 ≤ body ∧ body ≤ 5) (tgt := 14) dX6_grown_4 (by decide) (fun c_1 => ?_) (fun c_1 => ?_)
  · skip
    refine lv_sipush (v := (-10000)) hx hb dX6_grown_14 (by decide) ?_
    exact kx_iret hx hb hr (v := (-10000)) (by rw [if_neg (fun h => by obtain ⟨h1, h2⟩ := h; first | exact absurd (by assumption) c_1 | contradiction)]) dX6_grown_17 hlocks
  · skip
    refine lv_iload_n hx hb dX6_grown_7 rfl (lv_at hl 2 rfl) ?_
    refine kx_ri (va_runS (As := [.int measure]) (rest := []) ⟨hx, hb, hml, hown, hts⟩ (c_X6_isBody l measure) (va_cwS 1 hts gX6_grown_X6_isBody rfl rfl rfl (by decide +kernel) ⟨(Nat.le_of_ble_eq_true rfl), (Nat.le_of_ble_eq_true rfl)⟩) kx_preS rfl rfl hl.1 rfl (lv_room (Nat.le_of_ble_eq_true rfl)) dX6_grown_8 ⟨Nat.zero_le _, Nat.zero_le _⟩) ?_
    refine kx_ifneB hx hb (0 ≤ measure ∧ measure ≤ 5) (tgt := 18) dX6_grown_11 (by decide) (fun c_2 => ?_) (fun c_2 => ?_)
    · skip
      refine lv_aload_n hx hb dX6_grown_18 rfl (lv_at hl 0 rfl) ?_
      refine lv_iload_n hx hb dX6_grown_19 rfl (lv_at hl 1 rfl) ?_
      refine lv_iload_n hx hb dX6_grown_20 rfl (lv_at hl 2 rfl) ?_
      refine lv_sipush (v := 20000) hx hb dX6_grown_21 (by decide) ?_
      refine kx_ri (va_runV (As := [.int body, .int measure, .int 20000]) (rest := []) ⟨hx, hb, hml, hown, hts⟩ (c_X6_dayAhead l G cI cZ qM qM1 qM2 qM3 qM4 qM5 qM6 qM7 qM8 qM9 qM10 qM11 qM12 qM13 hd bd ms dy vl hbt k0 k1 k2 k3 k4 sn cor jn cu se fi pr xx yy wn hn on be told pts pcs sms wd ck nc lt en bl bn body measure 20000 (by first | assumption | omega)) (cwV 3 hts gX6_grown_X6_dayAhead rfl rfl rfl (by decide +kernel) ⟨(Nat.le_of_ble_eq_true rfl), (Nat.le_of_ble_eq_true rfl)⟩) (kx_preR hK (kx_sub 0 14 hP rfl) 0 rfl rfl) rfl rfl hl.1 rfl (lv_room (Nat.le_of_ble_eq_true rfl)) dX6_grown_24 ⟨Nat.zero_le _, Nat.zero_le _⟩) ?_
      refine lv_istore_n (lv' := [(3, .int (kLast bd ms dy body measure 20000 told)), (0, .ref qM), (1, .int body), (2, .int measure)]) hx hb dX6_grown_27 rfl hl (by decide) rfl (fun ls hl => ?_)
      refine lv_iload_n hx hb dX6_grown_28 rfl (lv_at hl 0 rfl) ?_
      refine lv_iconst (v := (-1)) hx hb dX6_grown_29 (by decide) ?_
      refine lv_icmp_ne (tgt := 37) hx hb dX6_grown_30 (by decide) (fun c_3 => ?_) (fun c_3 => ?_)
      · skip
        refine lv_aload_n hx hb dX6_grown_37 rfl (lv_at hl 1 rfl) ?_
        refine lv_iload_n hx hb dX6_grown_38 rfl (lv_at hl 2 rfl) ?_
        refine lv_iload_n hx hb dX6_grown_39 rfl (lv_at hl 3 rfl) ?_
        refine lv_iload_n hx hb dX6_grown_40 rfl (lv_at hl 0 rfl) ?_
        refine kx_ri (va_runV (As := [.int body, .int measure, .int (kLast bd ms dy body measure 20000 told)]) (rest := []) ⟨hx, hb, hml, hown, hts⟩ (c_X6_dayAhead l G cI cZ qM qM1 qM2 qM3 qM4 qM5 qM6 qM7 qM8 qM9 qM10 qM11 qM12 qM13 hd bd ms dy vl hbt k0 k1 k2 k3 k4 sn cor jn cu se fi pr xx yy wn hn on be told pts pcs sms wd ck nc lt en bl bn body measure (kLast bd ms dy body measure 20000 told) (by first | assumption | omega)) (cwV 3 hts gX6_grown_X6_dayAhead rfl rfl rfl (by decide +kernel) ⟨(Nat.le_of_ble_eq_true rfl), (Nat.le_of_ble_eq_true rfl)⟩) (kx_preR hK (kx_sub 0 14 hP rfl) 0 rfl rfl) rfl rfl hl.1 rfl (lv_room (Nat.le_of_ble_eq_true rfl)) dX6_grown_41 ⟨Nat.zero_le _, Nat.zero_le _⟩) ?_
        refine lv_istore (lv' := [(4, .int (kLast bd ms dy body measure (kLast bd ms dy body measure 20000 told) told)), (3, .int (kLast bd ms dy body measure 20000 told)), (0, .ref qM), (1, .int body), (2, .int measure)]) hx hb dX6_grown_44 hl (by decide) rfl (fun ls hl => ?_)
        refine lv_iload hx hb dX6_grown_46 (lv_at hl 0 rfl) ?_
        refine lv_iconst (v := (-1)) hx hb dX6_grown_48 (by decide) ?_
        refine lv_icmp_ne (tgt := 56) hx hb dX6_grown_49 (by decide) (fun c_4 => ?_) (fun c_4 => ?_)
        · skip
          refine lv_aload_n hx hb dX6_grown_56 rfl (lv_at hl 2 rfl) ?_
          refine lv_iload_n hx hb dX6_grown_57 rfl (lv_at hl 3 rfl) ?_
          refine lv_iload_n hx hb dX6_grown_58 rfl (lv_at hl 4 rfl) ?_
          refine lv_iload_n hx hb dX6_grown_59 rfl (lv_at hl 1 rfl) ?_
          refine kx_ri (va_runV (As := [.int body, .int measure, .int (kLast bd ms dy body measure 20000 told)]) (rest := []) ⟨hx, hb, hml, hown, hts⟩ (c_X6_measureOn l G cI cZ qM qM1 qM2 qM3 qM4 qM5 qM6 qM7 qM8 qM9 qM10 qM11 qM12 qM13 hd bd ms dy vl hbt k0 k1 k2 k3 k4 sn cor jn cu se fi pr xx yy wn hn on be told pts pcs sms wd ck nc lt en bl bn body measure (kLast bd ms dy body measure 20000 told) (by first | assumption | omega) (by first | assumption | omega) (kx_vin (k := 5) (by decide) c_2.1 c_2.2)) (cwV 3 hts gX6_grown_X6_measureOn rfl rfl rfl (by decide +kernel) ⟨(Nat.le_of_ble_eq_true rfl), (Nat.le_of_ble_eq_true rfl)⟩) (kx_preR hK (kx_sub 0 14 hP rfl) 0 rfl rfl) rfl rfl hl.1 rfl (lv_room (Nat.le_of_ble_eq_true rfl)) dX6_grown_60 ⟨Nat.zero_le _, Nat.zero_le _⟩) ?_
          refine lv_aload_n hx hb dX6_grown_63 rfl (lv_at hl 2 rfl) ?_
          refine lv_iload_n hx hb dX6_grown_64 rfl (lv_at hl 3 rfl) ?_
          refine lv_iload_n hx hb dX6_grown_65 rfl (lv_at hl 4 rfl) ?_
          refine lv_iload hx hb dX6_grown_66 (lv_at hl 0 rfl) ?_
          refine kx_ri (va_runV (As := [.int body, .int measure, .int (kLast bd ms dy body measure (kLast bd ms dy body measure 20000 told) told)]) (rest := [.int (kMean hd bd ms dy vl hbt told body measure (kLast bd ms dy body measure 20000 told))]) ⟨hx, hb, hml, hown, hts⟩ (c_X6_measureOn l G cI cZ qM qM1 qM2 qM3 qM4 qM5 qM6 qM7 qM8 qM9 qM10 qM11 qM12 qM13 hd bd ms dy vl hbt k0 k1 k2 k3 k4 sn cor jn cu se fi pr xx yy wn hn on be told pts pcs sms wd ck nc lt en bl bn body measure (kLast bd ms dy body measure (kLast bd ms dy body measure 20000 told) told) (by first | assumption | omega) (by first | assumption | omega) (kx_vin (k := 5) (by decide) c_2.1 c_2.2)) (cwV 3 hts gX6_grown_X6_measureOn rfl rfl rfl (by decide +kernel) ⟨(Nat.le_of_ble_eq_true rfl), (Nat.le_of_ble_eq_true rfl)⟩) (kx_preR hK (kx_sub 0 14 hP rfl) 0 rfl rfl) rfl rfl hl.1 rfl (lv_room (Nat.le_of_ble_eq_true rfl)) dX6_grown_68 ⟨Nat.zero_le _, Nat.zero_le _⟩) ?_
          refine lv_isub hx hb dX6_grown_71 ?_
          exact kx_iret hx hb hr (v := ((kMean hd bd ms dy vl hbt told body measure (kLast bd ms dy body measure 20000 told)) - (kMean hd bd ms dy vl hbt told body measure (kLast bd ms dy body measure (kLast bd ms dy body measure 20000 told) told)))) (by rw [if_pos ⟨c_1, c_2⟩]; simp [kGrow20, c_1, c_2, c_3, c_4]) dX6_grown_72 hlocks
        · skip
          refine lv_iconst (v := 0) hx hb dX6_grown_52 (by decide) ?_
          refine lv_goto (tgt := 72) hx hb dX6_grown_53 (by decide) ?_
          exact kx_iret hx hb hr (v := 0) (by rw [if_pos ⟨c_1, c_2⟩]; simp [kGrow20, c_1, c_2, c_3, c_4]) dX6_grown_72 hlocks
      · skip
        refine lv_iconst (v := (-1)) hx hb dX6_grown_33 (by decide) ?_
        refine lv_goto (tgt := 44) hx hb dX6_grown_34 (by decide) ?_
        refine lv_istore (lv' := [(4, .int (-1)), (3, .int (kLast bd ms dy body measure 20000 told)), (0, .ref qM), (1, .int body), (2, .int measure)]) hx hb dX6_grown_44 hl (by decide) rfl (fun ls hl => ?_)
        refine lv_iload hx hb dX6_grown_46 (lv_at hl 0 rfl) ?_
        refine lv_iconst (v := (-1)) hx hb dX6_grown_48 (by decide) ?_
        refine lv_icmp_ne (tgt := 56) hx hb dX6_grown_49 (by decide) (fun c_5 => ?_) (fun c_5 => ?_)
        · exact absurd c_5 (by decide)
        · skip
          refine lv_iconst (v := 0) hx hb dX6_grown_52 (by decide) ?_
          refine lv_goto (tgt := 72) hx hb dX6_grown_53 (by decide) ?_
          exact kx_iret hx hb hr (v := 0) (by rw [if_pos ⟨c_1, c_2⟩]; simp [kGrow20, c_1, c_2, c_3, c_5]) dX6_grown_72 hlocks
    · skip
      refine lv_sipush (v := (-10000)) hx hb dX6_grown_14 (by decide) ?_
      exact kx_iret hx hb hr (v := (-10000)) (by rw [if_neg (fun h => by obtain ⟨h1, h2⟩ := h; first | exact absurd (by assumption) c_2 | contradiction)]) dX6_grown_17 hlocks
abbrev rm_X6_found : Room := { frames := 2, cells := 0, slots := 0, locals := 42 }
set_option maxHeartbeats 4000000 in
set_option maxRecDepth 100000 in
theorem c_X6_found (l : Launch) (G : va_G) (cI cZ : ClassId) (qM : Nat) (qM1 : Nat) (qM2 : Nat) (qM3 : Nat) (qM4 : Nat) (qM5 : Nat) (qM6 : Nat) (qM7 : Nat) (qM8 : Nat) (qM9 : Nat) (qM10 : Nat) (qM11 : Nat) (qM12 : Nat) (qM13 : Nat) (hd : Nat → Int32) (bd : Nat → Int32) (ms : Nat → Int32) (dy : Nat → Int32) (vl : Nat → Int32) (hbt : Nat → Int32) (k0 : Nat → Int32) (k1 : Nat → Int32) (k2 : Nat → Int32) (k3 : Nat → Int32) (k4 : Nat → Int32) (sn : Nat → Nat) (cor : Nat → Int32) (jn : Nat → Nat) (cu : Nat → Nat) (se : Nat → Nat) (fi : Nat → Nat) (pr : Nat → Nat) (xx : Nat → Int32) (yy : Nat → Int32) (wn : Nat → Nat) (hn : Nat → Nat) (on : Nat → Nat) (be : Nat → Nat) (told : Nat) (pts : Nat) (pcs : Nat) (sms : Nat) (wd : Nat) (ck : Nat) (nc : Nat) (lt : Nat) (en : Nat) (bl : Nat) (bn : Nat) (measure : Int32) (sx : Int32) (tx : Int32) (hTo : told ≤ 40) : Met l yX6_found wsX6_found rm_X6_found (kx_Pr G cI cZ [(qM, .inr (6, [.int (nI told), .ref qM1, .ref qM2, .int (nI pts), .ref qM3, .int (nI pcs), .ref qM4, .ref qM5, .int (nI sms), .ref qM6, .int (nI wd), .int (nI ck), .int (nI nc), .ref qM7, .ref qM8, .ref qM9, .ref qM10, .ref qM11, .ref qM12, .ref qM13, .int (nI lt), .int (nI en), .int (nI bl), .int (nI bn)])), (qM1, .inl (cI, 200, .inl (il5 hd bd ms dy vl))), (qM2, .inl (cI, 24, .inl hbt)), (qM3, .inl (cI, 100, .inl (il5 k0 k1 k2 k3 k4))), (qM4, .inl (cI, 7, .inl (fun k => nI (sn k)))), (qM5, .inl (cI, 56, .inl cor)), (qM6, .inl (cI, 40, .inl (fun k => nI (jn k)))), (qM7, .inl (cI, 24, .inl (fun k => nI (i4 cu se fi pr k)))), (qM8, .inl (cI, 20, .inl xx)), (qM9, .inl (cI, 20, .inl yy)), (qM10, .inl (cI, 7, .inl (fun k => nI (wn k)))), (qM11, .inl (cI, 7, .inl (fun k => nI (hn k)))), (qM12, .inl (cI, 7, .inl (fun k => nI (on k)))), (qM13, .inl (cI, 7, .inl (fun k => nI (be k))))] [.ref qM, .int measure, .int sx, .int tx]) (QcRead (if (0 ≤ measure ∧ measure ≤ 5) ∧ (0 ≤ sx ∧ sx ≤ 3) ∧ (0 ≤ tx ∧ tx ≤ 3) then mFound hd bd ms dy vl told measure sx tx else -2000)) 0 0 (fun _ => False) := by
  refine Met.ofW (cc := cX6_found) (maxL := 9) (ret := (some .int)) (by decide) rfl ?_
  intro p e s m args below meth c s₁ B hml hv
  obtain ⟨rfl, hP, hK⟩ := hv
  have hx := B.exec
  have hb := B.bytes
  have hr := B.returns
  have hts := atoms_spec (ws := wsX6_found) B.pre
  have hown : s.vm.findClass RX6 = some m.cls := findClass_of_methodNamed B.named
  have hlocks := B.notSynchronized
  have hl := lv_entry ([.ref qM, .int measure, .int sx, .int tx]) (n := 9) (Nat.le_of_ble_eq_true rfl)
  rw [lg_entry_eq]
  generalize (lg_sl ([.ref qM, .int measure, .int sx, .int tx]) ++ List.replicate (9 - (lg_sl ([.ref qM, .int measure, .int sx, .int tx])).length) Slot.unset).toArray = ls at hl ⊢
  have hl : lv_has ls 9 [(0, .ref qM), (1, .int measure), (2, .int sx), (3, .int tx)] := hl
  refine lv_iload_n hx hb dX6_found_0 rfl (lv_at hl 1 rfl) ?_
  refine kx_ri (va_runS (As := [.int measure]) (rest := []) ⟨hx, hb, hml, hown, hts⟩ (c_X6_isBody l measure) (va_cwS 1 hts gX6_found_X6_isBody rfl rfl rfl (by decide +kernel) ⟨(Nat.le_of_ble_eq_true rfl), (Nat.le_of_ble_eq_true rfl)⟩) kx_preS rfl rfl hl.1 rfl (lv_room (Nat.le_of_ble_eq_true rfl)) dX6_found_1 ⟨Nat.zero_le _, Nat.zero_le _⟩) ?_
  refine kx_ifeqB hx hb (0 ≤ measure ∧ measure ≤ 5) (tgt := 21) dX6_found_4 (by decide) (fun c_1 => ?_) (fun c_1 => ?_)
  · skip
    refine lv_sipush (v := (-2000)) hx hb dX6_found_21 (by decide) ?_
    exact kx_iret hx hb hr (v := (-2000)) (by rw [if_neg (fun h => by obtain ⟨h1, h2, h3⟩ := h; first | exact absurd (by assumption) c_1 | contradiction)]) dX6_found_24 hlocks
  · skip
    refine lv_iload_n hx hb dX6_found_7 rfl (lv_at hl 2 rfl) ?_
    refine kx_ri (va_runS (As := [.int sx]) (rest := []) ⟨hx, hb, hml, hown, hts⟩ (c_X6_isHand l sx) (va_cwS 1 hts gX6_found_X6_isHand rfl rfl rfl (by decide +kernel) ⟨(Nat.le_of_ble_eq_true rfl), (Nat.le_of_ble_eq_true rfl)⟩) kx_preS rfl rfl hl.1 rfl (lv_room (Nat.le_of_ble_eq_true rfl)) dX6_found_8 ⟨Nat.zero_le _, Nat.zero_le _⟩) ?_
    refine kx_ifeqB hx hb (0 ≤ sx ∧ sx ≤ 3) (tgt := 21) dX6_found_11 (by decide) (fun c_2 => ?_) (fun c_2 => ?_)
    · skip
      refine lv_sipush (v := (-2000)) hx hb dX6_found_21 (by decide) ?_
      exact kx_iret hx hb hr (v := (-2000)) (by rw [if_neg (fun h => by obtain ⟨h1, h2, h3⟩ := h; first | exact absurd (by assumption) c_2 | contradiction)]) dX6_found_24 hlocks
    · skip
      refine lv_iload_n hx hb dX6_found_14 rfl (lv_at hl 3 rfl) ?_
      refine kx_ri (va_runS (As := [.int tx]) (rest := []) ⟨hx, hb, hml, hown, hts⟩ (c_X6_isHand l tx) (va_cwS 1 hts gX6_found_X6_isHand rfl rfl rfl (by decide +kernel) ⟨(Nat.le_of_ble_eq_true rfl), (Nat.le_of_ble_eq_true rfl)⟩) kx_preS rfl rfl hl.1 rfl (lv_room (Nat.le_of_ble_eq_true rfl)) dX6_found_15 ⟨Nat.zero_le _, Nat.zero_le _⟩) ?_
      refine kx_ifneB hx hb (0 ≤ tx ∧ tx ≤ 3) (tgt := 25) dX6_found_18 (by decide) (fun c_3 => ?_) (fun c_3 => ?_)
      · skip
        refine lv_iconst (v := 0) hx hb dX6_found_25 (by decide) ?_
        refine lv_istore (lv' := [(4, .int 0), (0, .ref qM), (1, .int measure), (2, .int sx), (3, .int tx)]) hx hb dX6_found_26 hl (by decide) rfl (fun ls hl => ?_)
        refine lv_iconst (v := 0) hx hb dX6_found_28 (by decide) ?_
        refine lv_istore (lv' := [(5, .int 0), (4, .int 0), (0, .ref qM), (1, .int measure), (2, .int sx), (3, .int tx)]) hx hb dX6_found_29 hl (by decide) rfl (fun ls hl => ?_)
        refine lv_iconst (v := 0) hx hb dX6_found_31 (by decide) ?_
        refine lv_istore (lv' := [(6, .int 0), (5, .int 0), (4, .int 0), (0, .ref qM), (1, .int measure), (2, .int sx), (3, .int tx)]) hx hb dX6_found_32 hl (by decide) rfl (fun ls hl => ?_)
        have lab_34_4 : ∀ (nn_4 : Nat) (i : Nat) (z4_0 : Int32) (z4_1 : Nat) (z4_2 : Nat) (hi : i ≤ told) (ez4_0 : (mFS hd bd ms dy vl told measure sx tx i) = z4_0) (ez4_1 : (mFN hd bd ms dy told measure sx tx i) = z4_1) (ez4_2 : i = z4_2) (ls : Array Slot) (hl : lv_has ls 9 [(6, .int (nI z4_2)), (5, .int (nI z4_1)), (4, .int z4_0), (0, .ref qM), (1, .int measure), (2, .int sx), (3, .int tx)]), (told - i) < nn_4 → W p l e (headSpec wsX6_found rm_X6_found).room s m ([.ref qM, .int measure, .int sx, .int tx] : List Value).toArray below meth c s.heap [] 0 0 (MQ below (QcRead (if (0 ≤ measure ∧ measure ≤ 5) ∧ (0 ≤ sx ∧ sx ≤ 3) ∧ (0 ≤ tx ∧ tx ≤ 3) then mFound hd bd ms dy vl told measure sx tx else -2000)) ([.ref qM, .int measure, .int sx, .int tx] : List Value).toArray s 0 0 (fun _ => False)) (F0 m 34 ls []) := by
          intro nn_4
          induction nn_4 with
          | zero => intro i z4_0 z4_1 z4_2 hi ez4_0 ez4_1 ez4_2 ls hl hn; exact absurd hn (Nat.not_lt_zero _)
          | succ nn_4 ih_4 =>
            intro i z4_0 z4_1 z4_2 hi ez4_0 ez4_1 ez4_2 ls hl hn_4
            subst ez4_0
            subst ez4_1
            subst ez4_2
            refine lv_iload hx hb dX6_found_34 (lv_at hl 0 rfl) ?_
            refine lv_aload_n hx hb dX6_found_36 rfl (lv_at hl 3 rfl) ?_
            refine va_get (D := G) (ci := 6) (v := .int (nI told)) (C := RX6) (T := TX6) (N := 24) hx hb hts (fun _ h => List.mem_cons_of_mem _ (List.mem_append_right _ h)) hown hK.1 hP 0 rfl rfl 0 (by decide) (hts (.fieldLink RX6 67 "TailorHouseModel" "tellings" "I") (List.mem_of_getElem? (i := 1) rfl)) (fun _ h9 => h9) rfl dX6_found_37 ?_
            refine kx_geN hx hb i told (by omega) (by omega) (tgt := 197) dX6_found_40 (by decide) (fun c_5 => ?_) (fun c_5 => ?_)
            · skip
              have hE : told = i := by omega
              subst hE
              refine lv_iload hx hb dX6_found_197 (lv_at hl 1 rfl) ?_
              refine lv_if_ne (tgt := 208) hx hb dX6_found_199 (by decide) (fun c_6 => ?_) (fun c_6 => ?_)
              · skip
                refine lv_iload hx hb dX6_found_208 (lv_at hl 2 rfl) ?_
                refine lv_iload hx hb dX6_found_210 (lv_at hl 1 rfl) ?_
                refine lv_idiv hx hb dX6_found_212 (c_6) ?_
                exact kx_iret hx hb hr (v := ((mFS hd bd ms dy vl told measure sx tx told) / (nI (mFN hd bd ms dy told measure sx tx told)))) (by rw [if_pos ⟨c_1, c_2, c_3⟩]; simp [mFound, c_6]) dX6_found_213 hlocks
              · skip
                refine lv_sipush (v := (-1001)) hx hb dX6_found_202 (by decide) ?_
                refine lv_goto (tgt := 213) hx hb dX6_found_205 (by decide) ?_
                exact kx_iret hx hb hr (v := (-1001)) (by rw [if_pos ⟨c_1, c_2, c_3⟩]; simp [mFound, c_6]) dX6_found_213 hlocks
            · skip
              refine lv_iconst (v := 0) hx hb dX6_found_43 (by decide) ?_
              refine lv_istore (lv' := [(7, .int 0), (6, .int (nI i)), (5, .int (nI (mFN hd bd ms dy told measure sx tx i))), (4, .int (mFS hd bd ms dy vl told measure sx tx i)), (0, .ref qM), (1, .int measure), (2, .int sx), (3, .int tx)]) hx hb dX6_found_44 hl (by decide) rfl (fun ls hl => ?_)
              have lab_46_7 : ∀ (nn_7 : Nat) (j : Nat) (z7_0 : Int32) (z7_1 : Nat) (z7_2 : Nat) (hj : j ≤ told) (ez7_0 : (mFs hd bd ms dy vl measure sx tx i j (mFS hd bd ms dy vl told measure sx tx i)) = z7_0) (ez7_1 : (mFn hd bd ms dy measure sx tx i j (mFN hd bd ms dy told measure sx tx i)) = z7_1) (ez7_2 : j = z7_2) (ls : Array Slot) (hl : lv_has ls 9 [(7, .int (nI z7_2)), (6, .int (nI i)), (5, .int (nI z7_1)), (4, .int z7_0), (0, .ref qM), (1, .int measure), (2, .int sx), (3, .int tx)]), (told - j) < nn_7 → W p l e (headSpec wsX6_found rm_X6_found).room s m ([.ref qM, .int measure, .int sx, .int tx] : List Value).toArray below meth c s.heap [] 0 0 (MQ below (QcRead (if (0 ≤ measure ∧ measure ≤ 5) ∧ (0 ≤ sx ∧ sx ≤ 3) ∧ (0 ≤ tx ∧ tx ≤ 3) then mFound hd bd ms dy vl told measure sx tx else -2000)) ([.ref qM, .int measure, .int sx, .int tx] : List Value).toArray s 0 0 (fun _ => False)) (F0 m 46 ls []) := by
                intro nn_7
                induction nn_7 with
                | zero => intro j z7_0 z7_1 z7_2 hj ez7_0 ez7_1 ez7_2 ls hl hn; exact absurd hn (Nat.not_lt_zero _)
                | succ nn_7 ih_7 =>
                  intro j z7_0 z7_1 z7_2 hj ez7_0 ez7_1 ez7_2 ls hl hn_7
                  subst ez7_0
                  subst ez7_1
                  subst ez7_2
                  refine lv_iload hx hb dX6_found_46 (lv_at hl 0 rfl) ?_
                  refine lv_aload_n hx hb dX6_found_48 rfl (lv_at hl 4 rfl) ?_
                  refine va_get (D := G) (ci := 6) (v := .int (nI told)) (C := RX6) (T := TX6) (N := 24) hx hb hts (fun _ h => List.mem_cons_of_mem _ (List.mem_append_right _ h)) hown hK.1 hP 0 rfl rfl 0 (by decide) (hts (.fieldLink RX6 67 "TailorHouseModel" "tellings" "I") (List.mem_of_getElem? (i := 1) rfl)) (fun _ h9 => h9) rfl dX6_found_49 ?_
                  refine kx_geN hx hb j told (by omega) (by omega) (tgt := 191) dX6_found_52 (by decide) (fun c_8 => ?_) (fun c_8 => ?_)
                  · skip
                    have hE : told = j := by omega
                    subst hE
                    refine lv_iinc (v := nI (i + 1)) (lv' := [(6, .int (nI (i + 1))), (7, .int (nI told)), (5, .int (nI (mFn hd bd ms dy measure sx tx i told (mFN hd bd ms dy told measure sx tx i)))), (4, .int (mFs hd bd ms dy vl measure sx tx i told (mFS hd bd ms dy vl told measure sx tx i))), (0, .ref qM), (1, .int measure), (2, .int sx), (3, .int tx)]) hx hb dX6_found_191 hl (k := 1) rfl (nI_1 i) (by decide) rfl (fun ls hl => ?_)
                    refine lv_goto (tgt := 34) hx hb dX6_found_194 (by decide) ?_
                    exact ih_4 (i + 1) (mFs hd bd ms dy vl measure sx tx i told (mFS hd bd ms dy vl told measure sx tx i)) (mFn hd bd ms dy measure sx tx i told (mFN hd bd ms dy told measure sx tx i)) (i + 1) (by omega) (rfl) (rfl) rfl ls (lv_sub hl [0, 2, 3, 4, 5, 6, 7] rfl) (by omega)
                  · skip
                    refine lv_aload_n hx hb dX6_found_55 rfl (lv_at hl 4 rfl) ?_
                    refine va_get (D := G) (ci := 6) (v := .ref qM1) (C := RX6) (T := TX6) (N := 24) hx hb hts (fun _ h => List.mem_cons_of_mem _ (List.mem_append_right _ h)) hown hK.1 hP 0 rfl rfl 1 (by decide) (hts (.fieldLink RX6 7 "TailorHouseModel" "telling" "[I") (List.mem_of_getElem? (i := 2) rfl)) (fun _ h9 => h9) rfl dX6_found_56 ?_
                    refine lv_iconst (v := 5) hx hb dX6_found_59 (by decide) ?_
                    refine lv_iload hx hb dX6_found_60 (lv_at hl 1 rfl) ?_
                    refine kx_imulN hx hb 5 i dX6_found_62 ?_
                    refine kx_ialdN hx hb hK.1 hP 1 rfl rfl (5 * i) (by omega) (by decide) dX6_found_63 ?_
                    refine kx_top (y := hd i) (il5_0 hd bd ms dy vl i) ?_
                    refine lv_iload_n hx hb dX6_found_64 rfl (lv_at hl 6 rfl) ?_
                    refine lv_icmp_ne (tgt := 100) hx hb dX6_found_65 (by decide) (fun c_9 => ?_) (fun c_9 => ?_)
                    · skip
                      refine lv_iconst (v := 0) hx hb dX6_found_100 (by decide) ?_
                      refine lv_istore (lv' := [(8, .int 0), (7, .int (nI j)), (6, .int (nI i)), (5, .int (nI (mFn hd bd ms dy measure sx tx i j (mFN hd bd ms dy told measure sx tx i)))), (4, .int (mFs hd bd ms dy vl measure sx tx i j (mFS hd bd ms dy vl told measure sx tx i))), (0, .ref qM), (1, .int measure), (2, .int sx), (3, .int tx)]) hx hb dX6_found_101 hl (by decide) rfl (fun ls hl => ?_)
                      refine lv_iload hx hb dX6_found_103 (lv_at hl 0 rfl) ?_
                      refine lv_if_eq (tgt := 185) hx hb dX6_found_105 (by decide) (fun c_10 => ?_) (fun c_10 => ?_)
                      · skip
                        refine lv_iinc (v := nI (j + 1)) (lv' := [(7, .int (nI (j + 1))), (8, .int 0), (6, .int (nI i)), (5, .int (nI (mFn hd bd ms dy measure sx tx i j (mFN hd bd ms dy told measure sx tx i)))), (4, .int (mFs hd bd ms dy vl measure sx tx i j (mFS hd bd ms dy vl told measure sx tx i))), (0, .ref qM), (1, .int measure), (2, .int sx), (3, .int tx)]) hx hb dX6_found_185 hl (k := 1) rfl (nI_1 j) (by decide) rfl (fun ls hl => ?_)
                        refine lv_goto (tgt := 46) hx hb dX6_found_188 (by decide) ?_
                        exact ih_7 (j + 1) (mFs hd bd ms dy vl measure sx tx i j (mFS hd bd ms dy vl told measure sx tx i)) (mFn hd bd ms dy measure sx tx i j (mFN hd bd ms dy told measure sx tx i)) (j + 1) (by omega) (by simp [mFs, mFn, mFc, c_8, Nat.not_le.mpr c_8, c_9, c_10]) (by simp [mFs, mFn, mFc, c_8, Nat.not_le.mpr c_8, c_9, c_10]) rfl ls (lv_sub hl [0, 2, 3, 4, 5, 6, 7, 8] rfl) (by omega)
                      · exact absurd c_10 (by decide)
                    · skip
                      refine lv_aload_n hx hb dX6_found_68 rfl (lv_at hl 4 rfl) ?_
                      refine va_get (D := G) (ci := 6) (v := .ref qM1) (C := RX6) (T := TX6) (N := 24) hx hb hts (fun _ h => List.mem_cons_of_mem _ (List.mem_append_right _ h)) hown hK.1 hP 0 rfl rfl 1 (by decide) (hts (.fieldLink RX6 7 "TailorHouseModel" "telling" "[I") (List.mem_of_getElem? (i := 2) rfl)) (fun _ h9 => h9) rfl dX6_found_69 ?_
                      refine lv_iconst (v := 5) hx hb dX6_found_72 (by decide) ?_
                      refine lv_iload hx hb dX6_found_73 (lv_at hl 0 rfl) ?_
                      refine kx_imulN hx hb 5 j dX6_found_75 ?_
                      refine kx_ialdN hx hb hK.1 hP 1 rfl rfl (5 * j) (by omega) (by decide) dX6_found_76 ?_
                      refine kx_top (y := hd j) (il5_0 hd bd ms dy vl j) ?_
                      refine lv_iload_n hx hb dX6_found_77 rfl (lv_at hl 7 rfl) ?_
                      refine lv_icmp_ne (tgt := 100) hx hb dX6_found_78 (by decide) (fun c_11 => ?_) (fun c_11 => ?_)
                      · skip
                        refine lv_iconst (v := 0) hx hb dX6_found_100 (by decide) ?_
                        refine lv_istore (lv' := [(8, .int 0), (7, .int (nI j)), (6, .int (nI i)), (5, .int (nI (mFn hd bd ms dy measure sx tx i j (mFN hd bd ms dy told measure sx tx i)))), (4, .int (mFs hd bd ms dy vl measure sx tx i j (mFS hd bd ms dy vl told measure sx tx i))), (0, .ref qM), (1, .int measure), (2, .int sx), (3, .int tx)]) hx hb dX6_found_101 hl (by decide) rfl (fun ls hl => ?_)
                        refine lv_iload hx hb dX6_found_103 (lv_at hl 0 rfl) ?_
                        refine lv_if_eq (tgt := 185) hx hb dX6_found_105 (by decide) (fun c_12 => ?_) (fun c_12 => ?_)
                        · skip
                          refine lv_iinc (v := nI (j + 1)) (lv' := [(7, .int (nI (j + 1))), (8, .int 0), (6, .int (nI i)), (5, .int (nI (mFn hd bd ms dy measure sx tx i j (mFN hd bd ms dy told measure sx tx i)))), (4, .int (mFs hd bd ms dy vl measure sx tx i j (mFS hd bd ms dy vl told measure sx tx i))), (0, .ref qM), (1, .int measure), (2, .int sx), (3, .int tx)]) hx hb dX6_found_185 hl (k := 1) rfl (nI_1 j) (by decide) rfl (fun ls hl => ?_)
                          refine lv_goto (tgt := 46) hx hb dX6_found_188 (by decide) ?_
                          exact ih_7 (j + 1) (mFs hd bd ms dy vl measure sx tx i j (mFS hd bd ms dy vl told measure sx tx i)) (mFn hd bd ms dy measure sx tx i j (mFN hd bd ms dy told measure sx tx i)) (j + 1) (by omega) (by simp [mFs, mFn, mFc, c_8, Nat.not_le.mpr c_8, c_9, c_11, c_12]) (by simp [mFs, mFn, mFc, c_8, Nat.not_le.mpr c_8, c_9, c_11, c_12]) rfl ls (lv_sub hl [0, 2, 3, 4, 5, 6, 7, 8] rfl) (by omega)
                        · exact absurd c_12 (by decide)
                      · skip
                        refine lv_aload_n hx hb dX6_found_81 rfl (lv_at hl 4 rfl) ?_
                        refine va_get (D := G) (ci := 6) (v := .ref qM1) (C := RX6) (T := TX6) (N := 24) hx hb hts (fun _ h => List.mem_cons_of_mem _ (List.mem_append_right _ h)) hown hK.1 hP 0 rfl rfl 1 (by decide) (hts (.fieldLink RX6 7 "TailorHouseModel" "telling" "[I") (List.mem_of_getElem? (i := 2) rfl)) (fun _ h9 => h9) rfl dX6_found_82 ?_
                        refine lv_iconst (v := 5) hx hb dX6_found_85 (by decide) ?_
                        refine lv_iload hx hb dX6_found_86 (lv_at hl 1 rfl) ?_
                        refine kx_imulN hx hb 5 i dX6_found_88 ?_
                        refine lv_iconst (v := 2) hx hb dX6_found_89 (by decide) ?_
                        refine kx_iaddN hx hb (5 * i) 2 dX6_found_90 ?_
                        refine kx_ialdN hx hb hK.1 hP 1 rfl rfl ((5 * i) + 2) (by omega) (by decide) dX6_found_91 ?_
                        refine kx_top (y := ms i) (il5_2 hd bd ms dy vl i) ?_
                        refine lv_iload_n hx hb dX6_found_92 rfl (lv_at hl 5 rfl) ?_
                        refine lv_icmp_ne (tgt := 100) hx hb dX6_found_93 (by decide) (fun c_13 => ?_) (fun c_13 => ?_)
                        · skip
                          refine lv_iconst (v := 0) hx hb dX6_found_100 (by decide) ?_
                          refine lv_istore (lv' := [(8, .int 0), (7, .int (nI j)), (6, .int (nI i)), (5, .int (nI (mFn hd bd ms dy measure sx tx i j (mFN hd bd ms dy told measure sx tx i)))), (4, .int (mFs hd bd ms dy vl measure sx tx i j (mFS hd bd ms dy vl told measure sx tx i))), (0, .ref qM), (1, .int measure), (2, .int sx), (3, .int tx)]) hx hb dX6_found_101 hl (by decide) rfl (fun ls hl => ?_)
                          refine lv_iload hx hb dX6_found_103 (lv_at hl 0 rfl) ?_
                          refine lv_if_eq (tgt := 185) hx hb dX6_found_105 (by decide) (fun c_14 => ?_) (fun c_14 => ?_)
                          · skip
                            refine lv_iinc (v := nI (j + 1)) (lv' := [(7, .int (nI (j + 1))), (8, .int 0), (6, .int (nI i)), (5, .int (nI (mFn hd bd ms dy measure sx tx i j (mFN hd bd ms dy told measure sx tx i)))), (4, .int (mFs hd bd ms dy vl measure sx tx i j (mFS hd bd ms dy vl told measure sx tx i))), (0, .ref qM), (1, .int measure), (2, .int sx), (3, .int tx)]) hx hb dX6_found_185 hl (k := 1) rfl (nI_1 j) (by decide) rfl (fun ls hl => ?_)
                            refine lv_goto (tgt := 46) hx hb dX6_found_188 (by decide) ?_
                            exact ih_7 (j + 1) (mFs hd bd ms dy vl measure sx tx i j (mFS hd bd ms dy vl told measure sx tx i)) (mFn hd bd ms dy measure sx tx i j (mFN hd bd ms dy told measure sx tx i)) (j + 1) (by omega) (by simp [mFs, mFn, mFc, c_8, Nat.not_le.mpr c_8, c_9, c_11, c_13, c_14]) (by simp [mFs, mFn, mFc, c_8, Nat.not_le.mpr c_8, c_9, c_11, c_13, c_14]) rfl ls (lv_sub hl [0, 2, 3, 4, 5, 6, 7, 8] rfl) (by omega)
                          · exact absurd c_14 (by decide)
                        · skip
                          refine lv_iconst (v := 1) hx hb dX6_found_96 (by decide) ?_
                          refine lv_goto (tgt := 101) hx hb dX6_found_97 (by decide) ?_
                          refine lv_istore (lv' := [(8, .int 1), (7, .int (nI j)), (6, .int (nI i)), (5, .int (nI (mFn hd bd ms dy measure sx tx i j (mFN hd bd ms dy told measure sx tx i)))), (4, .int (mFs hd bd ms dy vl measure sx tx i j (mFS hd bd ms dy vl told measure sx tx i))), (0, .ref qM), (1, .int measure), (2, .int sx), (3, .int tx)]) hx hb dX6_found_101 hl (by decide) rfl (fun ls hl => ?_)
                          refine lv_iload hx hb dX6_found_103 (lv_at hl 0 rfl) ?_
                          refine lv_if_eq (tgt := 185) hx hb dX6_found_105 (by decide) (fun c_15 => ?_) (fun c_15 => ?_)
                          · exact absurd c_15 (by decide)
                          · skip
                            refine lv_aload_n hx hb dX6_found_108 rfl (lv_at hl 5 rfl) ?_
                            refine lv_iload hx hb dX6_found_109 (lv_at hl 1 rfl) ?_
                            refine lv_aload_n hx hb dX6_found_111 rfl (lv_at hl 5 rfl) ?_
                            refine va_get (D := G) (ci := 6) (v := .ref qM1) (C := RX6) (T := TX6) (N := 24) hx hb hts (fun _ h => List.mem_cons_of_mem _ (List.mem_append_right _ h)) hown hK.1 hP 0 rfl rfl 1 (by decide) (hts (.fieldLink RX6 7 "TailorHouseModel" "telling" "[I") (List.mem_of_getElem? (i := 2) rfl)) (fun _ h9 => h9) rfl dX6_found_112 ?_
                            refine lv_iconst (v := 5) hx hb dX6_found_115 (by decide) ?_
                            refine lv_iload hx hb dX6_found_116 (lv_at hl 2 rfl) ?_
                            refine kx_imulN hx hb 5 i dX6_found_118 ?_
                            refine lv_iconst (v := 1) hx hb dX6_found_119 (by decide) ?_
                            refine kx_iaddN hx hb (5 * i) 1 dX6_found_120 ?_
                            refine kx_ialdN hx hb hK.1 hP 1 rfl rfl ((5 * i) + 1) (by omega) (by decide) dX6_found_121 ?_
                            refine kx_top (y := bd i) (il5_1 hd bd ms dy vl i) ?_
                            refine lv_iload_n hx hb dX6_found_122 rfl (lv_at hl 6 rfl) ?_
                            refine kx_ri (va_runV (As := [.int (nI j), .int (bd i), .int measure]) (rest := []) ⟨hx, hb, hml, hown, hts⟩ (c_X6_isOf l G cI cZ qM qM1 qM2 qM3 qM4 qM5 qM6 qM7 qM8 qM9 qM10 qM11 qM12 qM13 hd bd ms dy vl hbt k0 k1 k2 k3 k4 sn cor jn cu se fi pr xx yy wn hn on be told pts pcs sms wd ck nc lt en bl bn j (bd i) measure (by first | assumption | omega)) (cwV 3 hts gX6_found_X6_isOf rfl rfl rfl (by decide +kernel) ⟨(Nat.le_of_ble_eq_true rfl), (Nat.le_of_ble_eq_true rfl)⟩) (kx_preR hK (kx_sub 0 14 hP rfl) 0 rfl rfl) rfl rfl hl.1 rfl (lv_room (Nat.le_of_ble_eq_true rfl)) dX6_found_123 ⟨Nat.zero_le _, Nat.zero_le _⟩) ?_
                            refine kx_ifeqB hx hb (bd j = (bd i) ∧ ms j = measure) (tgt := 185) dX6_found_126 (by decide) (fun c_16 => ?_) (fun c_16 => ?_)
                            · skip
                              refine lv_iinc (v := nI (j + 1)) (lv' := [(7, .int (nI (j + 1))), (8, .int 1), (6, .int (nI i)), (5, .int (nI (mFn hd bd ms dy measure sx tx i j (mFN hd bd ms dy told measure sx tx i)))), (4, .int (mFs hd bd ms dy vl measure sx tx i j (mFS hd bd ms dy vl told measure sx tx i))), (0, .ref qM), (1, .int measure), (2, .int sx), (3, .int tx)]) hx hb dX6_found_185 hl (k := 1) rfl (nI_1 j) (by decide) rfl (fun ls hl => ?_)
                              refine lv_goto (tgt := 46) hx hb dX6_found_188 (by decide) ?_
                              exact ih_7 (j + 1) (mFs hd bd ms dy vl measure sx tx i j (mFS hd bd ms dy vl told measure sx tx i)) (mFn hd bd ms dy measure sx tx i j (mFN hd bd ms dy told measure sx tx i)) (j + 1) (by omega) (by simp [mFs, mFn, mFc, c_8, Nat.not_le.mpr c_8, c_9, c_11, c_13, c_15, c_16]) (by simp [mFs, mFn, mFc, c_8, Nat.not_le.mpr c_8, c_9, c_11, c_13, c_15, c_16]) rfl ls (lv_sub hl [0, 2, 3, 4, 5, 6, 7, 8] rfl) (by omega)
                            · skip
                              refine lv_aload_n hx hb dX6_found_129 rfl (lv_at hl 5 rfl) ?_
                              refine va_get (D := G) (ci := 6) (v := .ref qM1) (C := RX6) (T := TX6) (N := 24) hx hb hts (fun _ h => List.mem_cons_of_mem _ (List.mem_append_right _ h)) hown hK.1 hP 0 rfl rfl 1 (by decide) (hts (.fieldLink RX6 7 "TailorHouseModel" "telling" "[I") (List.mem_of_getElem? (i := 2) rfl)) (fun _ h9 => h9) rfl dX6_found_130 ?_
                              refine lv_iconst (v := 5) hx hb dX6_found_133 (by decide) ?_
                              refine lv_iload hx hb dX6_found_134 (lv_at hl 2 rfl) ?_
                              refine kx_imulN hx hb 5 i dX6_found_136 ?_
                              refine lv_iconst (v := 3) hx hb dX6_found_137 (by decide) ?_
                              refine kx_iaddN hx hb (5 * i) 3 dX6_found_138 ?_
                              refine kx_ialdN hx hb hK.1 hP 1 rfl rfl ((5 * i) + 3) (by omega) (by decide) dX6_found_139 ?_
                              refine kx_top (y := dy i) (il5_3 hd bd ms dy vl i) ?_
                              refine lv_aload_n hx hb dX6_found_140 rfl (lv_at hl 5 rfl) ?_
                              refine va_get (D := G) (ci := 6) (v := .ref qM1) (C := RX6) (T := TX6) (N := 24) hx hb hts (fun _ h => List.mem_cons_of_mem _ (List.mem_append_right _ h)) hown hK.1 hP 0 rfl rfl 1 (by decide) (hts (.fieldLink RX6 7 "TailorHouseModel" "telling" "[I") (List.mem_of_getElem? (i := 2) rfl)) (fun _ h9 => h9) rfl dX6_found_141 ?_
                              refine lv_iconst (v := 5) hx hb dX6_found_144 (by decide) ?_
                              refine lv_iload hx hb dX6_found_145 (lv_at hl 1 rfl) ?_
                              refine kx_imulN hx hb 5 j dX6_found_147 ?_
                              refine lv_iconst (v := 3) hx hb dX6_found_148 (by decide) ?_
                              refine kx_iaddN hx hb (5 * j) 3 dX6_found_149 ?_
                              refine kx_ialdN hx hb hK.1 hP 1 rfl rfl ((5 * j) + 3) (by omega) (by decide) dX6_found_150 ?_
                              refine kx_top (y := dy j) (il5_3 hd bd ms dy vl j) ?_
                              refine lv_icmp_ne (tgt := 185) hx hb dX6_found_151 (by decide) (fun c_17 => ?_) (fun c_17 => ?_)
                              · skip
                                refine lv_iinc (v := nI (j + 1)) (lv' := [(7, .int (nI (j + 1))), (8, .int 1), (6, .int (nI i)), (5, .int (nI (mFn hd bd ms dy measure sx tx i j (mFN hd bd ms dy told measure sx tx i)))), (4, .int (mFs hd bd ms dy vl measure sx tx i j (mFS hd bd ms dy vl told measure sx tx i))), (0, .ref qM), (1, .int measure), (2, .int sx), (3, .int tx)]) hx hb dX6_found_185 hl (k := 1) rfl (nI_1 j) (by decide) rfl (fun ls hl => ?_)
                                refine lv_goto (tgt := 46) hx hb dX6_found_188 (by decide) ?_
                                exact ih_7 (j + 1) (mFs hd bd ms dy vl measure sx tx i j (mFS hd bd ms dy vl told measure sx tx i)) (mFn hd bd ms dy measure sx tx i j (mFN hd bd ms dy told measure sx tx i)) (j + 1) (by omega) (by simp [mFs, mFn, mFc, c_8, Nat.not_le.mpr c_8, c_9, c_11, c_13, c_15, c_16, c_17]) (by simp [mFs, mFn, mFc, c_8, Nat.not_le.mpr c_8, c_9, c_11, c_13, c_15, c_16, c_17]) rfl ls (lv_sub hl [0, 2, 3, 4, 5, 6, 7, 8] rfl) (by omega)
                              · skip
                                refine lv_iload hx hb dX6_found_154 (lv_at hl 4 rfl) ?_
                                refine lv_aload_n hx hb dX6_found_156 rfl (lv_at hl 5 rfl) ?_
                                refine va_get (D := G) (ci := 6) (v := .ref qM1) (C := RX6) (T := TX6) (N := 24) hx hb hts (fun _ h => List.mem_cons_of_mem _ (List.mem_append_right _ h)) hown hK.1 hP 0 rfl rfl 1 (by decide) (hts (.fieldLink RX6 7 "TailorHouseModel" "telling" "[I") (List.mem_of_getElem? (i := 2) rfl)) (fun _ h9 => h9) rfl dX6_found_157 ?_
                                refine lv_iconst (v := 5) hx hb dX6_found_160 (by decide) ?_
                                refine lv_iload hx hb dX6_found_161 (lv_at hl 2 rfl) ?_
                                refine kx_imulN hx hb 5 i dX6_found_163 ?_
                                refine lv_iconst (v := 4) hx hb dX6_found_164 (by decide) ?_
                                refine kx_iaddN hx hb (5 * i) 4 dX6_found_165 ?_
                                refine kx_ialdN hx hb hK.1 hP 1 rfl rfl ((5 * i) + 4) (by omega) (by decide) dX6_found_166 ?_
                                refine kx_top (y := vl i) (il5_4 hd bd ms dy vl i) ?_
                                refine lv_aload_n hx hb dX6_found_167 rfl (lv_at hl 5 rfl) ?_
                                refine va_get (D := G) (ci := 6) (v := .ref qM1) (C := RX6) (T := TX6) (N := 24) hx hb hts (fun _ h => List.mem_cons_of_mem _ (List.mem_append_right _ h)) hown hK.1 hP 0 rfl rfl 1 (by decide) (hts (.fieldLink RX6 7 "TailorHouseModel" "telling" "[I") (List.mem_of_getElem? (i := 2) rfl)) (fun _ h9 => h9) rfl dX6_found_168 ?_
                                refine lv_iconst (v := 5) hx hb dX6_found_171 (by decide) ?_
                                refine lv_iload hx hb dX6_found_172 (lv_at hl 1 rfl) ?_
                                refine kx_imulN hx hb 5 j dX6_found_174 ?_
                                refine lv_iconst (v := 4) hx hb dX6_found_175 (by decide) ?_
                                refine kx_iaddN hx hb (5 * j) 4 dX6_found_176 ?_
                                refine kx_ialdN hx hb hK.1 hP 1 rfl rfl ((5 * j) + 4) (by omega) (by decide) dX6_found_177 ?_
                                refine kx_top (y := vl j) (il5_4 hd bd ms dy vl j) ?_
                                refine lv_isub hx hb dX6_found_178 ?_
                                refine lv_iadd hx hb dX6_found_179 ?_
                                refine lv_istore (lv' := [(4, .int ((mFs hd bd ms dy vl measure sx tx i j (mFS hd bd ms dy vl told measure sx tx i)) + ((vl i) - (vl j)))), (8, .int 1), (7, .int (nI j)), (6, .int (nI i)), (5, .int (nI (mFn hd bd ms dy measure sx tx i j (mFN hd bd ms dy told measure sx tx i)))), (0, .ref qM), (1, .int measure), (2, .int sx), (3, .int tx)]) hx hb dX6_found_180 hl (by decide) rfl (fun ls hl => ?_)
                                refine lv_iinc (v := nI (mFn hd bd ms dy measure sx tx i j (mFN hd bd ms dy told measure sx tx i) + 1)) (lv' := [(5, .int (nI (mFn hd bd ms dy measure sx tx i j (mFN hd bd ms dy told measure sx tx i) + 1))), (4, .int ((mFs hd bd ms dy vl measure sx tx i j (mFS hd bd ms dy vl told measure sx tx i)) + ((vl i) - (vl j)))), (8, .int 1), (7, .int (nI j)), (6, .int (nI i)), (0, .ref qM), (1, .int measure), (2, .int sx), (3, .int tx)]) hx hb dX6_found_182 hl (k := 4) rfl (nI_1 (mFn hd bd ms dy measure sx tx i j (mFN hd bd ms dy told measure sx tx i))) (by decide) rfl (fun ls hl => ?_)
                                refine lv_iinc (v := nI (j + 1)) (lv' := [(7, .int (nI (j + 1))), (5, .int (nI (mFn hd bd ms dy measure sx tx i j (mFN hd bd ms dy told measure sx tx i) + 1))), (4, .int ((mFs hd bd ms dy vl measure sx tx i j (mFS hd bd ms dy vl told measure sx tx i)) + ((vl i) - (vl j)))), (8, .int 1), (6, .int (nI i)), (0, .ref qM), (1, .int measure), (2, .int sx), (3, .int tx)]) hx hb dX6_found_185 hl (k := 3) rfl (nI_1 j) (by decide) rfl (fun ls hl => ?_)
                                refine lv_goto (tgt := 46) hx hb dX6_found_188 (by decide) ?_
                                exact ih_7 (j + 1) ((mFs hd bd ms dy vl measure sx tx i j (mFS hd bd ms dy vl told measure sx tx i)) + ((vl i) - (vl j))) (mFn hd bd ms dy measure sx tx i j (mFN hd bd ms dy told measure sx tx i) + 1) (j + 1) (by omega) (by simp [mFs, mFn, mFc, c_8, Nat.not_le.mpr c_8, c_9, c_11, c_13, c_15, c_16, c_17]) (by simp [mFs, mFn, mFc, c_8, Nat.not_le.mpr c_8, c_9, c_11, c_13, c_15, c_16, c_17]) rfl ls (lv_sub hl [0, 4, 1, 2, 5, 6, 7, 8] rfl) (by omega)
              exact lab_46_7 ((told - 0) + 1) 0 (mFS hd bd ms dy vl told measure sx tx i) (mFN hd bd ms dy told measure sx tx i) 0 (by omega) (rfl) (rfl) rfl ls (lv_sub hl [0, 1, 2, 3, 4, 5, 6, 7] rfl) (Nat.lt_succ_self _)
        exact lab_34_4 ((told - 0) + 1) 0 0 0 0 (by omega) (rfl) (rfl) rfl ls (lv_sub hl [0, 1, 2, 3, 4, 5, 6] rfl) (Nat.lt_succ_self _)
      · skip
        refine lv_sipush (v := (-2000)) hx hb dX6_found_21 (by decide) ?_
        exact kx_iret hx hb hr (v := (-2000)) (by rw [if_neg (fun h => by obtain ⟨h1, h2, h3⟩ := h; first | exact absurd (by assumption) c_3 | contradiction)]) dX6_found_24 hlocks
abbrev rm_X6_isPoint : Room := { frames := 1, cells := 0, slots := 0, locals := 22 }
set_option maxHeartbeats 4000000 in
set_option maxRecDepth 100000 in
theorem c_X6_isPoint (l : Launch) (G : va_G) (cI cZ : ClassId) (qM : Nat) (qM1 : Nat) (qM2 : Nat) (qM3 : Nat) (qM4 : Nat) (qM5 : Nat) (qM6 : Nat) (qM7 : Nat) (qM8 : Nat) (qM9 : Nat) (qM10 : Nat) (qM11 : Nat) (qM12 : Nat) (qM13 : Nat) (hd : Nat → Int32) (bd : Nat → Int32) (ms : Nat → Int32) (dy : Nat → Int32) (vl : Nat → Int32) (hbt : Nat → Int32) (k0 : Nat → Int32) (k1 : Nat → Int32) (k2 : Nat → Int32) (k3 : Nat → Int32) (k4 : Nat → Int32) (sn : Nat → Nat) (cor : Nat → Int32) (jn : Nat → Nat) (cu : Nat → Nat) (se : Nat → Nat) (fi : Nat → Nat) (pr : Nat → Nat) (xx : Nat → Int32) (yy : Nat → Int32) (wn : Nat → Nat) (hn : Nat → Nat) (on : Nat → Nat) (be : Nat → Nat) (told : Nat) (pts : Nat) (pcs : Nat) (sms : Nat) (wd : Nat) (ck : Nat) (nc : Nat) (lt : Nat) (en : Nat) (bl : Nat) (bn : Nat) (v : Int32) : Met l yX6_isPoint wsX6_isPoint rm_X6_isPoint (kx_Pr G cI cZ [(qM, .inr (6, [.int (nI told), .ref qM1, .ref qM2, .int (nI pts), .ref qM3, .int (nI pcs), .ref qM4, .ref qM5, .int (nI sms), .ref qM6, .int (nI wd), .int (nI ck), .int (nI nc), .ref qM7, .ref qM8, .ref qM9, .ref qM10, .ref qM11, .ref qM12, .ref qM13, .int (nI lt), .int (nI en), .int (nI bl), .int (nI bn)])), (qM1, .inl (cI, 200, .inl (il5 hd bd ms dy vl))), (qM2, .inl (cI, 24, .inl hbt)), (qM3, .inl (cI, 100, .inl (il5 k0 k1 k2 k3 k4))), (qM4, .inl (cI, 7, .inl (fun k => nI (sn k)))), (qM5, .inl (cI, 56, .inl cor)), (qM6, .inl (cI, 40, .inl (fun k => nI (jn k)))), (qM7, .inl (cI, 24, .inl (fun k => nI (i4 cu se fi pr k)))), (qM8, .inl (cI, 20, .inl xx)), (qM9, .inl (cI, 20, .inl yy)), (qM10, .inl (cI, 7, .inl (fun k => nI (wn k)))), (qM11, .inl (cI, 7, .inl (fun k => nI (hn k)))), (qM12, .inl (cI, 7, .inl (fun k => nI (on k)))), (qM13, .inl (cI, 7, .inl (fun k => nI (be k))))] [.ref qM, .int v]) (QcRead (kb (0 ≤ v ∧ v ≤ nI pts - 1))) 0 0 (fun _ => False) := by
  refine Met.ofW (cc := cX6_isPoint) (maxL := 2) (ret := (some .boolean)) (by decide) rfl ?_
  intro p e s m args below meth c s₁ B hml hv
  obtain ⟨rfl, hP, hK⟩ := hv
  have hx := B.exec
  have hb := B.bytes
  have hr := B.returns
  have hts := atoms_spec (ws := wsX6_isPoint) B.pre
  have hown : s.vm.findClass RX6 = some m.cls := findClass_of_methodNamed B.named
  have hlocks := B.notSynchronized
  have hl := lv_entry ([.ref qM, .int v]) (n := 2) (Nat.le_of_ble_eq_true rfl)
  rw [lg_entry_eq]
  generalize (lg_sl ([.ref qM, .int v]) ++ List.replicate (2 - (lg_sl ([.ref qM, .int v])).length) Slot.unset).toArray = ls at hl ⊢
  have hl : lv_has ls 2 [(0, .ref qM), (1, .int v)] := hl
  refine lv_iload_n hx hb dX6_isPoint_0 rfl (lv_at hl 1 rfl) ?_
  refine lv_iconst (v := 0) hx hb dX6_isPoint_1 (by decide) ?_
  refine lv_aload_n hx hb dX6_isPoint_2 rfl (lv_at hl 0 rfl) ?_
  refine va_get (D := G) (ci := 6) (v := .int (nI pts)) (C := RX6) (T := TX6) (N := 24) hx hb hts (fun _ h => List.mem_cons_of_mem _ (List.mem_append_right _ h)) hown hK.1 hP 0 rfl rfl 3 (by decide) (hts (.fieldLink RX6 84 "TailorHouseModel" "points" "I") (List.mem_of_getElem? (i := 1) rfl)) (fun _ h9 => h9) rfl dX6_isPoint_3 ?_
  refine lv_iconst (v := 1) hx hb dX6_isPoint_6 (by decide) ?_
  refine lv_isub hx hb dX6_isPoint_7 ?_
  refine kx_ri (va_runS (As := [.int v, .int 0, .int ((nI pts) - 1)]) (rest := []) ⟨hx, hb, hml, hown, hts⟩ (c_X6_in l v 0 ((nI pts) - 1)) (va_cwS 3 hts gX6_isPoint_X6_in rfl rfl rfl (by decide +kernel) ⟨(Nat.le_of_ble_eq_true rfl), (Nat.le_of_ble_eq_true rfl)⟩) kx_preS rfl rfl hl.1 rfl (lv_room (Nat.le_of_ble_eq_true rfl)) dX6_isPoint_8 ⟨Nat.zero_le _, Nat.zero_le _⟩) ?_
  exact kx_zret hx hb hr (v := (kb (0 ≤ v ∧ v ≤ ((nI pts) - 1)))) (by simp []) dX6_isPoint_11 hlocks
theorem h_X6_newPoint (cI cZ : ClassId) (qM : Nat) (qM1 : Nat) (qM2 : Nat) (qM3 : Nat) (qM4 : Nat) (qM5 : Nat) (qM6 : Nat) (qM7 : Nat) (qM8 : Nat) (qM9 : Nat) (qM10 : Nat) (qM11 : Nat) (qM12 : Nat) (qM13 : Nat) (hd : Nat → Int32) (bd : Nat → Int32) (ms : Nat → Int32) (dy : Nat → Int32) (vl : Nat → Int32) (hbt : Nat → Int32) (k0 : Nat → Int32) (k1 : Nat → Int32) (k2 : Nat → Int32) (k3 : Nat → Int32) (k4 : Nat → Int32) (sn : Nat → Nat) (cor : Nat → Int32) (jn : Nat → Nat) (cu : Nat → Nat) (se : Nat → Nat) (fi : Nat → Nat) (pr : Nat → Nat) (xx : Nat → Int32) (yy : Nat → Int32) (wn : Nat → Nat) (hn : Nat → Nat) (on : Nat → Nat) (be : Nat → Nat) (told : Nat) (pts : Nat) (pcs : Nat) (sms : Nat) (wd : Nat) (ck : Nat) (nc : Nat) (lt : Nat) (en : Nat) (bl : Nat) (bn : Nat) : ∀ u, (((fun u : (Nat → Int32) × (Nat → Int32) × (Nat → Int32) × (Nat → Int32) × (Nat → Int32) × Nat => [(qM, .inr (6, [.int (nI told), .ref qM1, .ref qM2, .int (nI u.2.2.2.2.2), .ref qM3, .int (nI pcs), .ref qM4, .ref qM5, .int (nI sms), .ref qM6, .int (nI wd), .int (nI ck), .int (nI nc), .ref qM7, .ref qM8, .ref qM9, .ref qM10, .ref qM11, .ref qM12, .ref qM13, .int (nI lt), .int (nI en), .int (nI bl), .int (nI bn)])), (qM1, .inl (cI, 200, .inl (il5 hd bd ms dy vl))), (qM2, .inl (cI, 24, .inl hbt)), (qM3, .inl (cI, 100, .inl (il5 u.1 u.2.1 u.2.2.1 u.2.2.2.1 u.2.2.2.2.1))), (qM4, .inl (cI, 7, .inl (fun k => nI (sn k)))), (qM5, .inl (cI, 56, .inl cor)), (qM6, .inl (cI, 40, .inl (fun k => nI (jn k)))), (qM7, .inl (cI, 24, .inl (fun k => nI (i4 cu se fi pr k)))), (qM8, .inl (cI, 20, .inl xx)), (qM9, .inl (cI, 20, .inl yy)), (qM10, .inl (cI, 7, .inl (fun k => nI (wn k)))), (qM11, .inl (cI, 7, .inl (fun k => nI (hn k)))), (qM12, .inl (cI, 7, .inl (fun k => nI (on k)))), (qM13, .inl (cI, 7, .inl (fun k => nI (be k))))]) : ((Nat → Int32) × (Nat → Int32) × (Nat → Int32) × (Nat → Int32) × (Nat → Int32) × Nat) → va_W) u).map Prod.fst = ([(qM, .inr (6, [.int (nI told), .ref qM1, .ref qM2, .int (nI pts), .ref qM3, .int (nI pcs), .ref qM4, .ref qM5, .int (nI sms), .ref qM6, .int (nI wd), .int (nI ck), .int (nI nc), .ref qM7, .ref qM8, .ref qM9, .ref qM10, .ref qM11, .ref qM12, .ref qM13, .int (nI lt), .int (nI en), .int (nI bl), .int (nI bn)])), (qM1, .inl (cI, 200, .inl (il5 hd bd ms dy vl))), (qM2, .inl (cI, 24, .inl hbt)), (qM3, .inl (cI, 100, .inl (il5 k0 k1 k2 k3 k4))), (qM4, .inl (cI, 7, .inl (fun k => nI (sn k)))), (qM5, .inl (cI, 56, .inl cor)), (qM6, .inl (cI, 40, .inl (fun k => nI (jn k)))), (qM7, .inl (cI, 24, .inl (fun k => nI (i4 cu se fi pr k)))), (qM8, .inl (cI, 20, .inl xx)), (qM9, .inl (cI, 20, .inl yy)), (qM10, .inl (cI, 7, .inl (fun k => nI (wn k)))), (qM11, .inl (cI, 7, .inl (fun k => nI (hn k)))), (qM12, .inl (cI, 7, .inl (fun k => nI (on k)))), (qM13, .inl (cI, 7, .inl (fun k => nI (be k))))] : va_W).map Prod.fst := fun _ => rfl
abbrev rm_X6_newPoint : Room := { frames := 0, cells := 0, slots := 0, locals := 0 }
set_option maxHeartbeats 4000000 in
set_option maxRecDepth 100000 in
theorem c_X6_newPoint (l : Launch) (G : va_G) (cI cZ : ClassId) (qM : Nat) (qM1 : Nat) (qM2 : Nat) (qM3 : Nat) (qM4 : Nat) (qM5 : Nat) (qM6 : Nat) (qM7 : Nat) (qM8 : Nat) (qM9 : Nat) (qM10 : Nat) (qM11 : Nat) (qM12 : Nat) (qM13 : Nat) (hd : Nat → Int32) (bd : Nat → Int32) (ms : Nat → Int32) (dy : Nat → Int32) (vl : Nat → Int32) (hbt : Nat → Int32) (k0 : Nat → Int32) (k1 : Nat → Int32) (k2 : Nat → Int32) (k3 : Nat → Int32) (k4 : Nat → Int32) (sn : Nat → Nat) (cor : Nat → Int32) (jn : Nat → Nat) (cu : Nat → Nat) (se : Nat → Nat) (fi : Nat → Nat) (pr : Nat → Nat) (xx : Nat → Int32) (yy : Nat → Int32) (wn : Nat → Nat) (hn : Nat → Nat) (on : Nat → Nat) (be : Nat → Nat) (told : Nat) (pts : Nat) (pcs : Nat) (sms : Nat) (wd : Nat) (ck : Nat) (nc : Nat) (lt : Nat) (en : Nat) (bl : Nat) (bn : Nat) (sz : Nat) (kind : Int32) (a : Int32) (b : Int32) (cx : Int32) (d : Int32) (hpo : pts ≤ 20) : Met l yX6_newPoint wsX6_newPoint rm_X6_newPoint (kx_Pw G cI cZ [(qM, .inr (6, [.int (nI told), .ref qM1, .ref qM2, .int (nI pts), .ref qM3, .int (nI pcs), .ref qM4, .ref qM5, .int (nI sms), .ref qM6, .int (nI wd), .int (nI ck), .int (nI nc), .ref qM7, .ref qM8, .ref qM9, .ref qM10, .ref qM11, .ref qM12, .ref qM13, .int (nI lt), .int (nI en), .int (nI bl), .int (nI bn)])), (qM1, .inl (cI, 200, .inl (il5 hd bd ms dy vl))), (qM2, .inl (cI, 24, .inl hbt)), (qM3, .inl (cI, 100, .inl (il5 k0 k1 k2 k3 k4))), (qM4, .inl (cI, 7, .inl (fun k => nI (sn k)))), (qM5, .inl (cI, 56, .inl cor)), (qM6, .inl (cI, 40, .inl (fun k => nI (jn k)))), (qM7, .inl (cI, 24, .inl (fun k => nI (i4 cu se fi pr k)))), (qM8, .inl (cI, 20, .inl xx)), (qM9, .inl (cI, 20, .inl yy)), (qM10, .inl (cI, 7, .inl (fun k => nI (wn k)))), (qM11, .inl (cI, 7, .inl (fun k => nI (hn k)))), (qM12, .inl (cI, 7, .inl (fun k => nI (on k)))), (qM13, .inl (cI, 7, .inl (fun k => nI (be k))))] sz [.ref qM, .int kind, .int a, .int b, .int cx, .int d]) (va_Qi (fun (r : Int32) (u : (Nat → Int32) × (Nat → Int32) × (Nat → Int32) × (Nat → Int32) × (Nat → Int32) × Nat) => if pts < 20 then r = nI pts ∧ u.1 = upd k0 pts kind ∧ u.2.1 = upd k1 pts a ∧ u.2.2.1 = upd k2 pts b ∧ u.2.2.2.1 = upd k3 pts cx ∧ u.2.2.2.2.1 = upd k4 pts d ∧ u.2.2.2.2.2 = pts + 1 else r = -4 ∧ u.1 = k0 ∧ u.2.1 = k1 ∧ u.2.2.1 = k2 ∧ u.2.2.2.1 = k3 ∧ u.2.2.2.2.1 = k4 ∧ u.2.2.2.2.2 = pts) (fun u t => va_P G vwCl ((fun u : (Nat → Int32) × (Nat → Int32) × (Nat → Int32) × (Nat → Int32) × (Nat → Int32) × Nat => [(qM, .inr (6, [.int (nI told), .ref qM1, .ref qM2, .int (nI u.2.2.2.2.2), .ref qM3, .int (nI pcs), .ref qM4, .ref qM5, .int (nI sms), .ref qM6, .int (nI wd), .int (nI ck), .int (nI nc), .ref qM7, .ref qM8, .ref qM9, .ref qM10, .ref qM11, .ref qM12, .ref qM13, .int (nI lt), .int (nI en), .int (nI bl), .int (nI bn)])), (qM1, .inl (cI, 200, .inl (il5 hd bd ms dy vl))), (qM2, .inl (cI, 24, .inl hbt)), (qM3, .inl (cI, 100, .inl (il5 u.1 u.2.1 u.2.2.1 u.2.2.2.1 u.2.2.2.2.1))), (qM4, .inl (cI, 7, .inl (fun k => nI (sn k)))), (qM5, .inl (cI, 56, .inl cor)), (qM6, .inl (cI, 40, .inl (fun k => nI (jn k)))), (qM7, .inl (cI, 24, .inl (fun k => nI (i4 cu se fi pr k)))), (qM8, .inl (cI, 20, .inl xx)), (qM9, .inl (cI, 20, .inl yy)), (qM10, .inl (cI, 7, .inl (fun k => nI (wn k)))), (qM11, .inl (cI, 7, .inl (fun k => nI (hn k)))), (qM12, .inl (cI, 7, .inl (fun k => nI (on k)))), (qM13, .inl (cI, 7, .inl (fun k => nI (be k))))]) u) t.heap) (va_A [(qM, .inr (6, [.int (nI told), .ref qM1, .ref qM2, .int (nI pts), .ref qM3, .int (nI pcs), .ref qM4, .ref qM5, .int (nI sms), .ref qM6, .int (nI wd), .int (nI ck), .int (nI nc), .ref qM7, .ref qM8, .ref qM9, .ref qM10, .ref qM11, .ref qM12, .ref qM13, .int (nI lt), .int (nI en), .int (nI bl), .int (nI bn)])), (qM1, .inl (cI, 200, .inl (il5 hd bd ms dy vl))), (qM2, .inl (cI, 24, .inl hbt)), (qM3, .inl (cI, 100, .inl (il5 k0 k1 k2 k3 k4))), (qM4, .inl (cI, 7, .inl (fun k => nI (sn k)))), (qM5, .inl (cI, 56, .inl cor)), (qM6, .inl (cI, 40, .inl (fun k => nI (jn k)))), (qM7, .inl (cI, 24, .inl (fun k => nI (i4 cu se fi pr k)))), (qM8, .inl (cI, 20, .inl xx)), (qM9, .inl (cI, 20, .inl yy)), (qM10, .inl (cI, 7, .inl (fun k => nI (wn k)))), (qM11, .inl (cI, 7, .inl (fun k => nI (hn k)))), (qM12, .inl (cI, 7, .inl (fun k => nI (on k)))), (qM13, .inl (cI, 7, .inl (fun k => nI (be k))))] sz)) 0 0 (va_A [(qM, .inr (6, [.int (nI told), .ref qM1, .ref qM2, .int (nI pts), .ref qM3, .int (nI pcs), .ref qM4, .ref qM5, .int (nI sms), .ref qM6, .int (nI wd), .int (nI ck), .int (nI nc), .ref qM7, .ref qM8, .ref qM9, .ref qM10, .ref qM11, .ref qM12, .ref qM13, .int (nI lt), .int (nI en), .int (nI bl), .int (nI bn)])), (qM1, .inl (cI, 200, .inl (il5 hd bd ms dy vl))), (qM2, .inl (cI, 24, .inl hbt)), (qM3, .inl (cI, 100, .inl (il5 k0 k1 k2 k3 k4))), (qM4, .inl (cI, 7, .inl (fun k => nI (sn k)))), (qM5, .inl (cI, 56, .inl cor)), (qM6, .inl (cI, 40, .inl (fun k => nI (jn k)))), (qM7, .inl (cI, 24, .inl (fun k => nI (i4 cu se fi pr k)))), (qM8, .inl (cI, 20, .inl xx)), (qM9, .inl (cI, 20, .inl yy)), (qM10, .inl (cI, 7, .inl (fun k => nI (wn k)))), (qM11, .inl (cI, 7, .inl (fun k => nI (hn k)))), (qM12, .inl (cI, 7, .inl (fun k => nI (on k)))), (qM13, .inl (cI, 7, .inl (fun k => nI (be k))))] sz) := by
  refine Met.ofW (cc := cX6_newPoint) (maxL := 7) (ret := (some .int)) (by decide) rfl ?_
  intro p e s m args below meth c s₁ B hml hv
  obtain ⟨rfl, hsz, hP, hD0, hK⟩ := hv
  have hx := B.exec
  have hb := B.bytes
  have hr := B.returns
  have hts := atoms_spec (ws := wsX6_newPoint) B.pre
  have hown : s.vm.findClass RX6 = some m.cls := findClass_of_methodNamed B.named
  have hlocks := B.notSynchronized
  subst hsz
  have hD := hD0.self (sz := s.heap.size)
  generalize hAe : va_A [(qM, .inr (6, [.int (nI told), .ref qM1, .ref qM2, .int (nI pts), .ref qM3, .int (nI pcs), .ref qM4, .ref qM5, .int (nI sms), .ref qM6, .int (nI wd), .int (nI ck), .int (nI nc), .ref qM7, .ref qM8, .ref qM9, .ref qM10, .ref qM11, .ref qM12, .ref qM13, .int (nI lt), .int (nI en), .int (nI bl), .int (nI bn)])), (qM1, .inl (cI, 200, .inl (il5 hd bd ms dy vl))), (qM2, .inl (cI, 24, .inl hbt)), (qM3, .inl (cI, 100, .inl (il5 k0 k1 k2 k3 k4))), (qM4, .inl (cI, 7, .inl (fun k => nI (sn k)))), (qM5, .inl (cI, 56, .inl cor)), (qM6, .inl (cI, 40, .inl (fun k => nI (jn k)))), (qM7, .inl (cI, 24, .inl (fun k => nI (i4 cu se fi pr k)))), (qM8, .inl (cI, 20, .inl xx)), (qM9, .inl (cI, 20, .inl yy)), (qM10, .inl (cI, 7, .inl (fun k => nI (wn k)))), (qM11, .inl (cI, 7, .inl (fun k => nI (hn k)))), (qM12, .inl (cI, 7, .inl (fun k => nI (on k)))), (qM13, .inl (cI, 7, .inl (fun k => nI (be k))))] s.heap.size = A at hD ⊢
  have hA : ∀ q : Nat, s.heap.size ≤ q → A q := fun q h => by rw [← hAe]; exact Or.inr h
  have hS : va_S A s.heap s.heap [] := va_S.rf
  have hl := lv_entry ([.ref qM, .int kind, .int a, .int b, .int cx, .int d]) (n := 7) (Nat.le_of_ble_eq_true rfl)
  rw [lg_entry_eq]
  generalize (lg_sl ([.ref qM, .int kind, .int a, .int b, .int cx, .int d]) ++ List.replicate (7 - (lg_sl ([.ref qM, .int kind, .int a, .int b, .int cx, .int d])).length) Slot.unset).toArray = ls at hl ⊢
  have hl : lv_has ls 7 [(0, .ref qM), (1, .int kind), (2, .int a), (3, .int b), (4, .int cx), (5, .int d)] := hl
  refine lv_aload_n hx hb dX6_newPoint_0 rfl (lv_at hl 0 rfl) ?_
  refine va_get (D := G) (ci := 6) (v := .int (nI pts)) (C := RX6) (T := TX6) (N := 24) hx hb hts (fun _ h => List.mem_cons_of_mem _ (List.mem_append_right _ h)) hown hK.1 hP 0 rfl rfl 3 (by decide) (hts (.fieldLink RX6 84 "TailorHouseModel" "points" "I") (List.mem_of_getElem? (i := 1) rfl)) (fun _ h9 => h9) rfl dX6_newPoint_1 ?_
  refine lv_bipush (v := 20) hx hb dX6_newPoint_4 (by decide) ?_
  refine kx_neN hx hb pts 20 (by omega) (by omega) (tgt := 12) dX6_newPoint_6 (by decide) (fun c_1 => ?_) (fun c_1 => ?_)
  · skip
    refine lv_iconst (v := 5) hx hb dX6_newPoint_12 (by decide) ?_
    refine lv_aload_n hx hb dX6_newPoint_13 rfl (lv_at hl 0 rfl) ?_
    refine va_get (D := G) (ci := 6) (v := .int (nI pts)) (C := RX6) (T := TX6) (N := 24) hx hb hts (fun _ h => List.mem_cons_of_mem _ (List.mem_append_right _ h)) hown hK.1 hP 0 rfl rfl 3 (by decide) (hts (.fieldLink RX6 84 "TailorHouseModel" "points" "I") (List.mem_of_getElem? (i := 1) rfl)) (fun _ h9 => h9) rfl dX6_newPoint_14 ?_
    refine kx_imulN hx hb 5 pts dX6_newPoint_17 ?_
    refine lv_istore (lv' := [(6, .int (nI (5 * pts))), (0, .ref qM), (1, .int kind), (2, .int a), (3, .int b), (4, .int cx), (5, .int d)]) hx hb dX6_newPoint_18 hl (by decide) rfl (fun ls hl => ?_)
    refine lv_aload_n hx hb dX6_newPoint_20 rfl (lv_at hl 1 rfl) ?_
    refine va_get (D := G) (ci := 6) (v := .ref qM3) (C := RX6) (T := TX6) (N := 24) hx hb hts (fun _ h => List.mem_cons_of_mem _ (List.mem_append_right _ h)) hown hK.1 hP 0 rfl rfl 4 (by decide) (hts (.fieldLink RX6 16 "TailorHouseModel" "point" "[I") (List.mem_of_getElem? (i := 2) rfl)) (fun _ h9 => h9) rfl dX6_newPoint_21 ?_
    refine lv_iload hx hb dX6_newPoint_24 (lv_at hl 0 rfl) ?_
    refine lv_iload_n hx hb dX6_newPoint_26 rfl (lv_at hl 2 rfl) ?_
    refine kx_iastN hx hb hK.1 hP hD hS 3 rfl rfl (5 * pts) (by omega) (by decide) dX6_newPoint_27 (fun H locs hP hD hS => ?_)
    have hP : va_P G vwCl [(qM, .inr (6, [.int (nI told), .ref qM1, .ref qM2, .int (nI pts), .ref qM3, .int (nI pcs), .ref qM4, .ref qM5, .int (nI sms), .ref qM6, .int (nI wd), .int (nI ck), .int (nI nc), .ref qM7, .ref qM8, .ref qM9, .ref qM10, .ref qM11, .ref qM12, .ref qM13, .int (nI lt), .int (nI en), .int (nI bl), .int (nI bn)])), (qM1, .inl (cI, 200, .inl (il5 hd bd ms dy vl))), (qM2, .inl (cI, 24, .inl hbt)), (qM3, .inl (cI, 100, .inl (upd (il5 k0 k1 k2 k3 k4) (5 * pts) kind))), (qM4, .inl (cI, 7, .inl (fun k => nI (sn k)))), (qM5, .inl (cI, 56, .inl cor)), (qM6, .inl (cI, 40, .inl (fun k => nI (jn k)))), (qM7, .inl (cI, 24, .inl (fun k => nI (i4 cu se fi pr k)))), (qM8, .inl (cI, 20, .inl xx)), (qM9, .inl (cI, 20, .inl yy)), (qM10, .inl (cI, 7, .inl (fun k => nI (wn k)))), (qM11, .inl (cI, 7, .inl (fun k => nI (hn k)))), (qM12, .inl (cI, 7, .inl (fun k => nI (on k)))), (qM13, .inl (cI, 7, .inl (fun k => nI (be k))))] H := hP
    have hD : va_D A [(qM, .inr (6, [.int (nI told), .ref qM1, .ref qM2, .int (nI pts), .ref qM3, .int (nI pcs), .ref qM4, .ref qM5, .int (nI sms), .ref qM6, .int (nI wd), .int (nI ck), .int (nI nc), .ref qM7, .ref qM8, .ref qM9, .ref qM10, .ref qM11, .ref qM12, .ref qM13, .int (nI lt), .int (nI en), .int (nI bl), .int (nI bn)])), (qM1, .inl (cI, 200, .inl (il5 hd bd ms dy vl))), (qM2, .inl (cI, 24, .inl hbt)), (qM3, .inl (cI, 100, .inl (upd (il5 k0 k1 k2 k3 k4) (5 * pts) kind))), (qM4, .inl (cI, 7, .inl (fun k => nI (sn k)))), (qM5, .inl (cI, 56, .inl cor)), (qM6, .inl (cI, 40, .inl (fun k => nI (jn k)))), (qM7, .inl (cI, 24, .inl (fun k => nI (i4 cu se fi pr k)))), (qM8, .inl (cI, 20, .inl xx)), (qM9, .inl (cI, 20, .inl yy)), (qM10, .inl (cI, 7, .inl (fun k => nI (wn k)))), (qM11, .inl (cI, 7, .inl (fun k => nI (hn k)))), (qM12, .inl (cI, 7, .inl (fun k => nI (on k)))), (qM13, .inl (cI, 7, .inl (fun k => nI (be k))))] := hD
    rw [il5_u0] at hP hD
    have hP : va_P G vwCl [(qM, .inr (6, [.int (nI told), .ref qM1, .ref qM2, .int (nI pts), .ref qM3, .int (nI pcs), .ref qM4, .ref qM5, .int (nI sms), .ref qM6, .int (nI wd), .int (nI ck), .int (nI nc), .ref qM7, .ref qM8, .ref qM9, .ref qM10, .ref qM11, .ref qM12, .ref qM13, .int (nI lt), .int (nI en), .int (nI bl), .int (nI bn)])), (qM1, .inl (cI, 200, .inl (il5 hd bd ms dy vl))), (qM2, .inl (cI, 24, .inl hbt)), (qM3, .inl (cI, 100, .inl (il5 (upd k0 pts kind) k1 k2 k3 k4))), (qM4, .inl (cI, 7, .inl (fun k => nI (sn k)))), (qM5, .inl (cI, 56, .inl cor)), (qM6, .inl (cI, 40, .inl (fun k => nI (jn k)))), (qM7, .inl (cI, 24, .inl (fun k => nI (i4 cu se fi pr k)))), (qM8, .inl (cI, 20, .inl xx)), (qM9, .inl (cI, 20, .inl yy)), (qM10, .inl (cI, 7, .inl (fun k => nI (wn k)))), (qM11, .inl (cI, 7, .inl (fun k => nI (hn k)))), (qM12, .inl (cI, 7, .inl (fun k => nI (on k)))), (qM13, .inl (cI, 7, .inl (fun k => nI (be k))))] H := hP
    have hD : va_D A [(qM, .inr (6, [.int (nI told), .ref qM1, .ref qM2, .int (nI pts), .ref qM3, .int (nI pcs), .ref qM4, .ref qM5, .int (nI sms), .ref qM6, .int (nI wd), .int (nI ck), .int (nI nc), .ref qM7, .ref qM8, .ref qM9, .ref qM10, .ref qM11, .ref qM12, .ref qM13, .int (nI lt), .int (nI en), .int (nI bl), .int (nI bn)])), (qM1, .inl (cI, 200, .inl (il5 hd bd ms dy vl))), (qM2, .inl (cI, 24, .inl hbt)), (qM3, .inl (cI, 100, .inl (il5 (upd k0 pts kind) k1 k2 k3 k4))), (qM4, .inl (cI, 7, .inl (fun k => nI (sn k)))), (qM5, .inl (cI, 56, .inl cor)), (qM6, .inl (cI, 40, .inl (fun k => nI (jn k)))), (qM7, .inl (cI, 24, .inl (fun k => nI (i4 cu se fi pr k)))), (qM8, .inl (cI, 20, .inl xx)), (qM9, .inl (cI, 20, .inl yy)), (qM10, .inl (cI, 7, .inl (fun k => nI (wn k)))), (qM11, .inl (cI, 7, .inl (fun k => nI (hn k)))), (qM12, .inl (cI, 7, .inl (fun k => nI (on k)))), (qM13, .inl (cI, 7, .inl (fun k => nI (be k))))] := hD
    refine lv_aload_n hx hb dX6_newPoint_28 rfl (lv_at hl 1 rfl) ?_
    refine va_get (D := G) (ci := 6) (v := .ref qM3) (C := RX6) (T := TX6) (N := 24) hx hb hts (fun _ h => List.mem_cons_of_mem _ (List.mem_append_right _ h)) hown hK.1 hP 0 rfl rfl 4 (by decide) (hts (.fieldLink RX6 16 "TailorHouseModel" "point" "[I") (List.mem_of_getElem? (i := 2) rfl)) (fun _ h9 => h9) rfl dX6_newPoint_29 ?_
    refine lv_iload hx hb dX6_newPoint_32 (lv_at hl 0 rfl) ?_
    refine lv_iconst (v := 1) hx hb dX6_newPoint_34 (by decide) ?_
    refine kx_iaddN hx hb (5 * pts) 1 dX6_newPoint_35 ?_
    refine lv_iload_n hx hb dX6_newPoint_36 rfl (lv_at hl 3 rfl) ?_
    refine kx_iastN hx hb hK.1 hP hD hS 3 rfl rfl ((5 * pts) + 1) (by omega) (by decide) dX6_newPoint_37 (fun H locs hP hD hS => ?_)
    have hP : va_P G vwCl [(qM, .inr (6, [.int (nI told), .ref qM1, .ref qM2, .int (nI pts), .ref qM3, .int (nI pcs), .ref qM4, .ref qM5, .int (nI sms), .ref qM6, .int (nI wd), .int (nI ck), .int (nI nc), .ref qM7, .ref qM8, .ref qM9, .ref qM10, .ref qM11, .ref qM12, .ref qM13, .int (nI lt), .int (nI en), .int (nI bl), .int (nI bn)])), (qM1, .inl (cI, 200, .inl (il5 hd bd ms dy vl))), (qM2, .inl (cI, 24, .inl hbt)), (qM3, .inl (cI, 100, .inl (upd (il5 (upd k0 pts kind) k1 k2 k3 k4) ((5 * pts) + 1) a))), (qM4, .inl (cI, 7, .inl (fun k => nI (sn k)))), (qM5, .inl (cI, 56, .inl cor)), (qM6, .inl (cI, 40, .inl (fun k => nI (jn k)))), (qM7, .inl (cI, 24, .inl (fun k => nI (i4 cu se fi pr k)))), (qM8, .inl (cI, 20, .inl xx)), (qM9, .inl (cI, 20, .inl yy)), (qM10, .inl (cI, 7, .inl (fun k => nI (wn k)))), (qM11, .inl (cI, 7, .inl (fun k => nI (hn k)))), (qM12, .inl (cI, 7, .inl (fun k => nI (on k)))), (qM13, .inl (cI, 7, .inl (fun k => nI (be k))))] H := hP
    have hD : va_D A [(qM, .inr (6, [.int (nI told), .ref qM1, .ref qM2, .int (nI pts), .ref qM3, .int (nI pcs), .ref qM4, .ref qM5, .int (nI sms), .ref qM6, .int (nI wd), .int (nI ck), .int (nI nc), .ref qM7, .ref qM8, .ref qM9, .ref qM10, .ref qM11, .ref qM12, .ref qM13, .int (nI lt), .int (nI en), .int (nI bl), .int (nI bn)])), (qM1, .inl (cI, 200, .inl (il5 hd bd ms dy vl))), (qM2, .inl (cI, 24, .inl hbt)), (qM3, .inl (cI, 100, .inl (upd (il5 (upd k0 pts kind) k1 k2 k3 k4) ((5 * pts) + 1) a))), (qM4, .inl (cI, 7, .inl (fun k => nI (sn k)))), (qM5, .inl (cI, 56, .inl cor)), (qM6, .inl (cI, 40, .inl (fun k => nI (jn k)))), (qM7, .inl (cI, 24, .inl (fun k => nI (i4 cu se fi pr k)))), (qM8, .inl (cI, 20, .inl xx)), (qM9, .inl (cI, 20, .inl yy)), (qM10, .inl (cI, 7, .inl (fun k => nI (wn k)))), (qM11, .inl (cI, 7, .inl (fun k => nI (hn k)))), (qM12, .inl (cI, 7, .inl (fun k => nI (on k)))), (qM13, .inl (cI, 7, .inl (fun k => nI (be k))))] := hD
    rw [il5_u1] at hP hD
    have hP : va_P G vwCl [(qM, .inr (6, [.int (nI told), .ref qM1, .ref qM2, .int (nI pts), .ref qM3, .int (nI pcs), .ref qM4, .ref qM5, .int (nI sms), .ref qM6, .int (nI wd), .int (nI ck), .int (nI nc), .ref qM7, .ref qM8, .ref qM9, .ref qM10, .ref qM11, .ref qM12, .ref qM13, .int (nI lt), .int (nI en), .int (nI bl), .int (nI bn)])), (qM1, .inl (cI, 200, .inl (il5 hd bd ms dy vl))), (qM2, .inl (cI, 24, .inl hbt)), (qM3, .inl (cI, 100, .inl (il5 (upd k0 pts kind) (upd k1 pts a) k2 k3 k4))), (qM4, .inl (cI, 7, .inl (fun k => nI (sn k)))), (qM5, .inl (cI, 56, .inl cor)), (qM6, .inl (cI, 40, .inl (fun k => nI (jn k)))), (qM7, .inl (cI, 24, .inl (fun k => nI (i4 cu se fi pr k)))), (qM8, .inl (cI, 20, .inl xx)), (qM9, .inl (cI, 20, .inl yy)), (qM10, .inl (cI, 7, .inl (fun k => nI (wn k)))), (qM11, .inl (cI, 7, .inl (fun k => nI (hn k)))), (qM12, .inl (cI, 7, .inl (fun k => nI (on k)))), (qM13, .inl (cI, 7, .inl (fun k => nI (be k))))] H := hP
    have hD : va_D A [(qM, .inr (6, [.int (nI told), .ref qM1, .ref qM2, .int (nI pts), .ref qM3, .int (nI pcs), .ref qM4, .ref qM5, .int (nI sms), .ref qM6, .int (nI wd), .int (nI ck), .int (nI nc), .ref qM7, .ref qM8, .ref qM9, .ref qM10, .ref qM11, .ref qM12, .ref qM13, .int (nI lt), .int (nI en), .int (nI bl), .int (nI bn)])), (qM1, .inl (cI, 200, .inl (il5 hd bd ms dy vl))), (qM2, .inl (cI, 24, .inl hbt)), (qM3, .inl (cI, 100, .inl (il5 (upd k0 pts kind) (upd k1 pts a) k2 k3 k4))), (qM4, .inl (cI, 7, .inl (fun k => nI (sn k)))), (qM5, .inl (cI, 56, .inl cor)), (qM6, .inl (cI, 40, .inl (fun k => nI (jn k)))), (qM7, .inl (cI, 24, .inl (fun k => nI (i4 cu se fi pr k)))), (qM8, .inl (cI, 20, .inl xx)), (qM9, .inl (cI, 20, .inl yy)), (qM10, .inl (cI, 7, .inl (fun k => nI (wn k)))), (qM11, .inl (cI, 7, .inl (fun k => nI (hn k)))), (qM12, .inl (cI, 7, .inl (fun k => nI (on k)))), (qM13, .inl (cI, 7, .inl (fun k => nI (be k))))] := hD
    refine lv_aload_n hx hb dX6_newPoint_38 rfl (lv_at hl 1 rfl) ?_
    refine va_get (D := G) (ci := 6) (v := .ref qM3) (C := RX6) (T := TX6) (N := 24) hx hb hts (fun _ h => List.mem_cons_of_mem _ (List.mem_append_right _ h)) hown hK.1 hP 0 rfl rfl 4 (by decide) (hts (.fieldLink RX6 16 "TailorHouseModel" "point" "[I") (List.mem_of_getElem? (i := 2) rfl)) (fun _ h9 => h9) rfl dX6_newPoint_39 ?_
    refine lv_iload hx hb dX6_newPoint_42 (lv_at hl 0 rfl) ?_
    refine lv_iconst (v := 2) hx hb dX6_newPoint_44 (by decide) ?_
    refine kx_iaddN hx hb (5 * pts) 2 dX6_newPoint_45 ?_
    refine lv_iload_n hx hb dX6_newPoint_46 rfl (lv_at hl 4 rfl) ?_
    refine kx_iastN hx hb hK.1 hP hD hS 3 rfl rfl ((5 * pts) + 2) (by omega) (by decide) dX6_newPoint_47 (fun H locs hP hD hS => ?_)
    have hP : va_P G vwCl [(qM, .inr (6, [.int (nI told), .ref qM1, .ref qM2, .int (nI pts), .ref qM3, .int (nI pcs), .ref qM4, .ref qM5, .int (nI sms), .ref qM6, .int (nI wd), .int (nI ck), .int (nI nc), .ref qM7, .ref qM8, .ref qM9, .ref qM10, .ref qM11, .ref qM12, .ref qM13, .int (nI lt), .int (nI en), .int (nI bl), .int (nI bn)])), (qM1, .inl (cI, 200, .inl (il5 hd bd ms dy vl))), (qM2, .inl (cI, 24, .inl hbt)), (qM3, .inl (cI, 100, .inl (upd (il5 (upd k0 pts kind) (upd k1 pts a) k2 k3 k4) ((5 * pts) + 2) b))), (qM4, .inl (cI, 7, .inl (fun k => nI (sn k)))), (qM5, .inl (cI, 56, .inl cor)), (qM6, .inl (cI, 40, .inl (fun k => nI (jn k)))), (qM7, .inl (cI, 24, .inl (fun k => nI (i4 cu se fi pr k)))), (qM8, .inl (cI, 20, .inl xx)), (qM9, .inl (cI, 20, .inl yy)), (qM10, .inl (cI, 7, .inl (fun k => nI (wn k)))), (qM11, .inl (cI, 7, .inl (fun k => nI (hn k)))), (qM12, .inl (cI, 7, .inl (fun k => nI (on k)))), (qM13, .inl (cI, 7, .inl (fun k => nI (be k))))] H := hP
    have hD : va_D A [(qM, .inr (6, [.int (nI told), .ref qM1, .ref qM2, .int (nI pts), .ref qM3, .int (nI pcs), .ref qM4, .ref qM5, .int (nI sms), .ref qM6, .int (nI wd), .int (nI ck), .int (nI nc), .ref qM7, .ref qM8, .ref qM9, .ref qM10, .ref qM11, .ref qM12, .ref qM13, .int (nI lt), .int (nI en), .int (nI bl), .int (nI bn)])), (qM1, .inl (cI, 200, .inl (il5 hd bd ms dy vl))), (qM2, .inl (cI, 24, .inl hbt)), (qM3, .inl (cI, 100, .inl (upd (il5 (upd k0 pts kind) (upd k1 pts a) k2 k3 k4) ((5 * pts) + 2) b))), (qM4, .inl (cI, 7, .inl (fun k => nI (sn k)))), (qM5, .inl (cI, 56, .inl cor)), (qM6, .inl (cI, 40, .inl (fun k => nI (jn k)))), (qM7, .inl (cI, 24, .inl (fun k => nI (i4 cu se fi pr k)))), (qM8, .inl (cI, 20, .inl xx)), (qM9, .inl (cI, 20, .inl yy)), (qM10, .inl (cI, 7, .inl (fun k => nI (wn k)))), (qM11, .inl (cI, 7, .inl (fun k => nI (hn k)))), (qM12, .inl (cI, 7, .inl (fun k => nI (on k)))), (qM13, .inl (cI, 7, .inl (fun k => nI (be k))))] := hD
    rw [il5_u2] at hP hD
    have hP : va_P G vwCl [(qM, .inr (6, [.int (nI told), .ref qM1, .ref qM2, .int (nI pts), .ref qM3, .int (nI pcs), .ref qM4, .ref qM5, .int (nI sms), .ref qM6, .int (nI wd), .int (nI ck), .int (nI nc), .ref qM7, .ref qM8, .ref qM9, .ref qM10, .ref qM11, .ref qM12, .ref qM13, .int (nI lt), .int (nI en), .int (nI bl), .int (nI bn)])), (qM1, .inl (cI, 200, .inl (il5 hd bd ms dy vl))), (qM2, .inl (cI, 24, .inl hbt)), (qM3, .inl (cI, 100, .inl (il5 (upd k0 pts kind) (upd k1 pts a) (upd k2 pts b) k3 k4))), (qM4, .inl (cI, 7, .inl (fun k => nI (sn k)))), (qM5, .inl (cI, 56, .inl cor)), (qM6, .inl (cI, 40, .inl (fun k => nI (jn k)))), (qM7, .inl (cI, 24, .inl (fun k => nI (i4 cu se fi pr k)))), (qM8, .inl (cI, 20, .inl xx)), (qM9, .inl (cI, 20, .inl yy)), (qM10, .inl (cI, 7, .inl (fun k => nI (wn k)))), (qM11, .inl (cI, 7, .inl (fun k => nI (hn k)))), (qM12, .inl (cI, 7, .inl (fun k => nI (on k)))), (qM13, .inl (cI, 7, .inl (fun k => nI (be k))))] H := hP
    have hD : va_D A [(qM, .inr (6, [.int (nI told), .ref qM1, .ref qM2, .int (nI pts), .ref qM3, .int (nI pcs), .ref qM4, .ref qM5, .int (nI sms), .ref qM6, .int (nI wd), .int (nI ck), .int (nI nc), .ref qM7, .ref qM8, .ref qM9, .ref qM10, .ref qM11, .ref qM12, .ref qM13, .int (nI lt), .int (nI en), .int (nI bl), .int (nI bn)])), (qM1, .inl (cI, 200, .inl (il5 hd bd ms dy vl))), (qM2, .inl (cI, 24, .inl hbt)), (qM3, .inl (cI, 100, .inl (il5 (upd k0 pts kind) (upd k1 pts a) (upd k2 pts b) k3 k4))), (qM4, .inl (cI, 7, .inl (fun k => nI (sn k)))), (qM5, .inl (cI, 56, .inl cor)), (qM6, .inl (cI, 40, .inl (fun k => nI (jn k)))), (qM7, .inl (cI, 24, .inl (fun k => nI (i4 cu se fi pr k)))), (qM8, .inl (cI, 20, .inl xx)), (qM9, .inl (cI, 20, .inl yy)), (qM10, .inl (cI, 7, .inl (fun k => nI (wn k)))), (qM11, .inl (cI, 7, .inl (fun k => nI (hn k)))), (qM12, .inl (cI, 7, .inl (fun k => nI (on k)))), (qM13, .inl (cI, 7, .inl (fun k => nI (be k))))] := hD
    refine lv_aload_n hx hb dX6_newPoint_48 rfl (lv_at hl 1 rfl) ?_
    refine va_get (D := G) (ci := 6) (v := .ref qM3) (C := RX6) (T := TX6) (N := 24) hx hb hts (fun _ h => List.mem_cons_of_mem _ (List.mem_append_right _ h)) hown hK.1 hP 0 rfl rfl 4 (by decide) (hts (.fieldLink RX6 16 "TailorHouseModel" "point" "[I") (List.mem_of_getElem? (i := 2) rfl)) (fun _ h9 => h9) rfl dX6_newPoint_49 ?_
    refine lv_iload hx hb dX6_newPoint_52 (lv_at hl 0 rfl) ?_
    refine lv_iconst (v := 3) hx hb dX6_newPoint_54 (by decide) ?_
    refine kx_iaddN hx hb (5 * pts) 3 dX6_newPoint_55 ?_
    refine lv_iload hx hb dX6_newPoint_56 (lv_at hl 5 rfl) ?_
    refine kx_iastN hx hb hK.1 hP hD hS 3 rfl rfl ((5 * pts) + 3) (by omega) (by decide) dX6_newPoint_58 (fun H locs hP hD hS => ?_)
    have hP : va_P G vwCl [(qM, .inr (6, [.int (nI told), .ref qM1, .ref qM2, .int (nI pts), .ref qM3, .int (nI pcs), .ref qM4, .ref qM5, .int (nI sms), .ref qM6, .int (nI wd), .int (nI ck), .int (nI nc), .ref qM7, .ref qM8, .ref qM9, .ref qM10, .ref qM11, .ref qM12, .ref qM13, .int (nI lt), .int (nI en), .int (nI bl), .int (nI bn)])), (qM1, .inl (cI, 200, .inl (il5 hd bd ms dy vl))), (qM2, .inl (cI, 24, .inl hbt)), (qM3, .inl (cI, 100, .inl (upd (il5 (upd k0 pts kind) (upd k1 pts a) (upd k2 pts b) k3 k4) ((5 * pts) + 3) cx))), (qM4, .inl (cI, 7, .inl (fun k => nI (sn k)))), (qM5, .inl (cI, 56, .inl cor)), (qM6, .inl (cI, 40, .inl (fun k => nI (jn k)))), (qM7, .inl (cI, 24, .inl (fun k => nI (i4 cu se fi pr k)))), (qM8, .inl (cI, 20, .inl xx)), (qM9, .inl (cI, 20, .inl yy)), (qM10, .inl (cI, 7, .inl (fun k => nI (wn k)))), (qM11, .inl (cI, 7, .inl (fun k => nI (hn k)))), (qM12, .inl (cI, 7, .inl (fun k => nI (on k)))), (qM13, .inl (cI, 7, .inl (fun k => nI (be k))))] H := hP
    have hD : va_D A [(qM, .inr (6, [.int (nI told), .ref qM1, .ref qM2, .int (nI pts), .ref qM3, .int (nI pcs), .ref qM4, .ref qM5, .int (nI sms), .ref qM6, .int (nI wd), .int (nI ck), .int (nI nc), .ref qM7, .ref qM8, .ref qM9, .ref qM10, .ref qM11, .ref qM12, .ref qM13, .int (nI lt), .int (nI en), .int (nI bl), .int (nI bn)])), (qM1, .inl (cI, 200, .inl (il5 hd bd ms dy vl))), (qM2, .inl (cI, 24, .inl hbt)), (qM3, .inl (cI, 100, .inl (upd (il5 (upd k0 pts kind) (upd k1 pts a) (upd k2 pts b) k3 k4) ((5 * pts) + 3) cx))), (qM4, .inl (cI, 7, .inl (fun k => nI (sn k)))), (qM5, .inl (cI, 56, .inl cor)), (qM6, .inl (cI, 40, .inl (fun k => nI (jn k)))), (qM7, .inl (cI, 24, .inl (fun k => nI (i4 cu se fi pr k)))), (qM8, .inl (cI, 20, .inl xx)), (qM9, .inl (cI, 20, .inl yy)), (qM10, .inl (cI, 7, .inl (fun k => nI (wn k)))), (qM11, .inl (cI, 7, .inl (fun k => nI (hn k)))), (qM12, .inl (cI, 7, .inl (fun k => nI (on k)))), (qM13, .inl (cI, 7, .inl (fun k => nI (be k))))] := hD
    rw [il5_u3] at hP hD
    have hP : va_P G vwCl [(qM, .inr (6, [.int (nI told), .ref qM1, .ref qM2, .int (nI pts), .ref qM3, .int (nI pcs), .ref qM4, .ref qM5, .int (nI sms), .ref qM6, .int (nI wd), .int (nI ck), .int (nI nc), .ref qM7, .ref qM8, .ref qM9, .ref qM10, .ref qM11, .ref qM12, .ref qM13, .int (nI lt), .int (nI en), .int (nI bl), .int (nI bn)])), (qM1, .inl (cI, 200, .inl (il5 hd bd ms dy vl))), (qM2, .inl (cI, 24, .inl hbt)), (qM3, .inl (cI, 100, .inl (il5 (upd k0 pts kind) (upd k1 pts a) (upd k2 pts b) (upd k3 pts cx) k4))), (qM4, .inl (cI, 7, .inl (fun k => nI (sn k)))), (qM5, .inl (cI, 56, .inl cor)), (qM6, .inl (cI, 40, .inl (fun k => nI (jn k)))), (qM7, .inl (cI, 24, .inl (fun k => nI (i4 cu se fi pr k)))), (qM8, .inl (cI, 20, .inl xx)), (qM9, .inl (cI, 20, .inl yy)), (qM10, .inl (cI, 7, .inl (fun k => nI (wn k)))), (qM11, .inl (cI, 7, .inl (fun k => nI (hn k)))), (qM12, .inl (cI, 7, .inl (fun k => nI (on k)))), (qM13, .inl (cI, 7, .inl (fun k => nI (be k))))] H := hP
    have hD : va_D A [(qM, .inr (6, [.int (nI told), .ref qM1, .ref qM2, .int (nI pts), .ref qM3, .int (nI pcs), .ref qM4, .ref qM5, .int (nI sms), .ref qM6, .int (nI wd), .int (nI ck), .int (nI nc), .ref qM7, .ref qM8, .ref qM9, .ref qM10, .ref qM11, .ref qM12, .ref qM13, .int (nI lt), .int (nI en), .int (nI bl), .int (nI bn)])), (qM1, .inl (cI, 200, .inl (il5 hd bd ms dy vl))), (qM2, .inl (cI, 24, .inl hbt)), (qM3, .inl (cI, 100, .inl (il5 (upd k0 pts kind) (upd k1 pts a) (upd k2 pts b) (upd k3 pts cx) k4))), (qM4, .inl (cI, 7, .inl (fun k => nI (sn k)))), (qM5, .inl (cI, 56, .inl cor)), (qM6, .inl (cI, 40, .inl (fun k => nI (jn k)))), (qM7, .inl (cI, 24, .inl (fun k => nI (i4 cu se fi pr k)))), (qM8, .inl (cI, 20, .inl xx)), (qM9, .inl (cI, 20, .inl yy)), (qM10, .inl (cI, 7, .inl (fun k => nI (wn k)))), (qM11, .inl (cI, 7, .inl (fun k => nI (hn k)))), (qM12, .inl (cI, 7, .inl (fun k => nI (on k)))), (qM13, .inl (cI, 7, .inl (fun k => nI (be k))))] := hD
    refine lv_aload_n hx hb dX6_newPoint_59 rfl (lv_at hl 1 rfl) ?_
    refine va_get (D := G) (ci := 6) (v := .ref qM3) (C := RX6) (T := TX6) (N := 24) hx hb hts (fun _ h => List.mem_cons_of_mem _ (List.mem_append_right _ h)) hown hK.1 hP 0 rfl rfl 4 (by decide) (hts (.fieldLink RX6 16 "TailorHouseModel" "point" "[I") (List.mem_of_getElem? (i := 2) rfl)) (fun _ h9 => h9) rfl dX6_newPoint_60 ?_
    refine lv_iload hx hb dX6_newPoint_63 (lv_at hl 0 rfl) ?_
    refine lv_iconst (v := 4) hx hb dX6_newPoint_65 (by decide) ?_
    refine kx_iaddN hx hb (5 * pts) 4 dX6_newPoint_66 ?_
    refine lv_iload hx hb dX6_newPoint_67 (lv_at hl 6 rfl) ?_
    refine kx_iastN hx hb hK.1 hP hD hS 3 rfl rfl ((5 * pts) + 4) (by omega) (by decide) dX6_newPoint_69 (fun H locs hP hD hS => ?_)
    have hP : va_P G vwCl [(qM, .inr (6, [.int (nI told), .ref qM1, .ref qM2, .int (nI pts), .ref qM3, .int (nI pcs), .ref qM4, .ref qM5, .int (nI sms), .ref qM6, .int (nI wd), .int (nI ck), .int (nI nc), .ref qM7, .ref qM8, .ref qM9, .ref qM10, .ref qM11, .ref qM12, .ref qM13, .int (nI lt), .int (nI en), .int (nI bl), .int (nI bn)])), (qM1, .inl (cI, 200, .inl (il5 hd bd ms dy vl))), (qM2, .inl (cI, 24, .inl hbt)), (qM3, .inl (cI, 100, .inl (upd (il5 (upd k0 pts kind) (upd k1 pts a) (upd k2 pts b) (upd k3 pts cx) k4) ((5 * pts) + 4) d))), (qM4, .inl (cI, 7, .inl (fun k => nI (sn k)))), (qM5, .inl (cI, 56, .inl cor)), (qM6, .inl (cI, 40, .inl (fun k => nI (jn k)))), (qM7, .inl (cI, 24, .inl (fun k => nI (i4 cu se fi pr k)))), (qM8, .inl (cI, 20, .inl xx)), (qM9, .inl (cI, 20, .inl yy)), (qM10, .inl (cI, 7, .inl (fun k => nI (wn k)))), (qM11, .inl (cI, 7, .inl (fun k => nI (hn k)))), (qM12, .inl (cI, 7, .inl (fun k => nI (on k)))), (qM13, .inl (cI, 7, .inl (fun k => nI (be k))))] H := hP
    have hD : va_D A [(qM, .inr (6, [.int (nI told), .ref qM1, .ref qM2, .int (nI pts), .ref qM3, .int (nI pcs), .ref qM4, .ref qM5, .int (nI sms), .ref qM6, .int (nI wd), .int (nI ck), .int (nI nc), .ref qM7, .ref qM8, .ref qM9, .ref qM10, .ref qM11, .ref qM12, .ref qM13, .int (nI lt), .int (nI en), .int (nI bl), .int (nI bn)])), (qM1, .inl (cI, 200, .inl (il5 hd bd ms dy vl))), (qM2, .inl (cI, 24, .inl hbt)), (qM3, .inl (cI, 100, .inl (upd (il5 (upd k0 pts kind) (upd k1 pts a) (upd k2 pts b) (upd k3 pts cx) k4) ((5 * pts) + 4) d))), (qM4, .inl (cI, 7, .inl (fun k => nI (sn k)))), (qM5, .inl (cI, 56, .inl cor)), (qM6, .inl (cI, 40, .inl (fun k => nI (jn k)))), (qM7, .inl (cI, 24, .inl (fun k => nI (i4 cu se fi pr k)))), (qM8, .inl (cI, 20, .inl xx)), (qM9, .inl (cI, 20, .inl yy)), (qM10, .inl (cI, 7, .inl (fun k => nI (wn k)))), (qM11, .inl (cI, 7, .inl (fun k => nI (hn k)))), (qM12, .inl (cI, 7, .inl (fun k => nI (on k)))), (qM13, .inl (cI, 7, .inl (fun k => nI (be k))))] := hD
    rw [il5_u4] at hP hD
    have hP : va_P G vwCl [(qM, .inr (6, [.int (nI told), .ref qM1, .ref qM2, .int (nI pts), .ref qM3, .int (nI pcs), .ref qM4, .ref qM5, .int (nI sms), .ref qM6, .int (nI wd), .int (nI ck), .int (nI nc), .ref qM7, .ref qM8, .ref qM9, .ref qM10, .ref qM11, .ref qM12, .ref qM13, .int (nI lt), .int (nI en), .int (nI bl), .int (nI bn)])), (qM1, .inl (cI, 200, .inl (il5 hd bd ms dy vl))), (qM2, .inl (cI, 24, .inl hbt)), (qM3, .inl (cI, 100, .inl (il5 (upd k0 pts kind) (upd k1 pts a) (upd k2 pts b) (upd k3 pts cx) (upd k4 pts d)))), (qM4, .inl (cI, 7, .inl (fun k => nI (sn k)))), (qM5, .inl (cI, 56, .inl cor)), (qM6, .inl (cI, 40, .inl (fun k => nI (jn k)))), (qM7, .inl (cI, 24, .inl (fun k => nI (i4 cu se fi pr k)))), (qM8, .inl (cI, 20, .inl xx)), (qM9, .inl (cI, 20, .inl yy)), (qM10, .inl (cI, 7, .inl (fun k => nI (wn k)))), (qM11, .inl (cI, 7, .inl (fun k => nI (hn k)))), (qM12, .inl (cI, 7, .inl (fun k => nI (on k)))), (qM13, .inl (cI, 7, .inl (fun k => nI (be k))))] H := hP
    have hD : va_D A [(qM, .inr (6, [.int (nI told), .ref qM1, .ref qM2, .int (nI pts), .ref qM3, .int (nI pcs), .ref qM4, .ref qM5, .int (nI sms), .ref qM6, .int (nI wd), .int (nI ck), .int (nI nc), .ref qM7, .ref qM8, .ref qM9, .ref qM10, .ref qM11, .ref qM12, .ref qM13, .int (nI lt), .int (nI en), .int (nI bl), .int (nI bn)])), (qM1, .inl (cI, 200, .inl (il5 hd bd ms dy vl))), (qM2, .inl (cI, 24, .inl hbt)), (qM3, .inl (cI, 100, .inl (il5 (upd k0 pts kind) (upd k1 pts a) (upd k2 pts b) (upd k3 pts cx) (upd k4 pts d)))), (qM4, .inl (cI, 7, .inl (fun k => nI (sn k)))), (qM5, .inl (cI, 56, .inl cor)), (qM6, .inl (cI, 40, .inl (fun k => nI (jn k)))), (qM7, .inl (cI, 24, .inl (fun k => nI (i4 cu se fi pr k)))), (qM8, .inl (cI, 20, .inl xx)), (qM9, .inl (cI, 20, .inl yy)), (qM10, .inl (cI, 7, .inl (fun k => nI (wn k)))), (qM11, .inl (cI, 7, .inl (fun k => nI (hn k)))), (qM12, .inl (cI, 7, .inl (fun k => nI (on k)))), (qM13, .inl (cI, 7, .inl (fun k => nI (be k))))] := hD
    refine lv_aload_n hx hb dX6_newPoint_70 rfl (lv_at hl 1 rfl) ?_
    refine lv_dup hx hb dX6_newPoint_71 rfl ?_
    refine va_get (D := G) (ci := 6) (v := .int (nI pts)) (C := RX6) (T := TX6) (N := 24) hx hb hts (fun _ h => List.mem_cons_of_mem _ (List.mem_append_right _ h)) hown hK.1 hP 0 rfl rfl 3 (by decide) (hts (.fieldLink RX6 84 "TailorHouseModel" "points" "I") (List.mem_of_getElem? (i := 1) rfl)) (fun _ h9 => h9) rfl dX6_newPoint_72 ?_
    refine lv_iconst (v := 1) hx hb dX6_newPoint_75 (by decide) ?_
    refine kx_iaddN hx hb pts 1 dX6_newPoint_76 ?_
    refine va_put (D := G) (ci := 6) (v := .int (nI (pts + 1))) (ty := .int) (C := RX6) (T := TX6) (N := 24) hx hb hts (fun _ h => List.mem_cons_of_mem _ (List.mem_append_right _ h)) tyX6 tyX6_ok nmX6 hown hK.1 hP hD hS 0 rfl rfl 3 (by decide) (hts (.fieldLink RX6 84 "TailorHouseModel" "points" "I") (List.mem_of_getElem? (i := 1) rfl)) (fun _ h9 => h9) rfl (by decide +kernel) rfl rfl (Nat.le_of_ble_eq_true rfl) dX6_newPoint_77 (fun H locs hP hD hS => ?_)
    have hP : va_P G vwCl [(qM, .inr (6, [.int (nI told), .ref qM1, .ref qM2, .int (nI (pts + 1)), .ref qM3, .int (nI pcs), .ref qM4, .ref qM5, .int (nI sms), .ref qM6, .int (nI wd), .int (nI ck), .int (nI nc), .ref qM7, .ref qM8, .ref qM9, .ref qM10, .ref qM11, .ref qM12, .ref qM13, .int (nI lt), .int (nI en), .int (nI bl), .int (nI bn)])), (qM1, .inl (cI, 200, .inl (il5 hd bd ms dy vl))), (qM2, .inl (cI, 24, .inl hbt)), (qM3, .inl (cI, 100, .inl (il5 (upd k0 pts kind) (upd k1 pts a) (upd k2 pts b) (upd k3 pts cx) (upd k4 pts d)))), (qM4, .inl (cI, 7, .inl (fun k => nI (sn k)))), (qM5, .inl (cI, 56, .inl cor)), (qM6, .inl (cI, 40, .inl (fun k => nI (jn k)))), (qM7, .inl (cI, 24, .inl (fun k => nI (i4 cu se fi pr k)))), (qM8, .inl (cI, 20, .inl xx)), (qM9, .inl (cI, 20, .inl yy)), (qM10, .inl (cI, 7, .inl (fun k => nI (wn k)))), (qM11, .inl (cI, 7, .inl (fun k => nI (hn k)))), (qM12, .inl (cI, 7, .inl (fun k => nI (on k)))), (qM13, .inl (cI, 7, .inl (fun k => nI (be k))))] H := hP
    have hD : va_D A [(qM, .inr (6, [.int (nI told), .ref qM1, .ref qM2, .int (nI (pts + 1)), .ref qM3, .int (nI pcs), .ref qM4, .ref qM5, .int (nI sms), .ref qM6, .int (nI wd), .int (nI ck), .int (nI nc), .ref qM7, .ref qM8, .ref qM9, .ref qM10, .ref qM11, .ref qM12, .ref qM13, .int (nI lt), .int (nI en), .int (nI bl), .int (nI bn)])), (qM1, .inl (cI, 200, .inl (il5 hd bd ms dy vl))), (qM2, .inl (cI, 24, .inl hbt)), (qM3, .inl (cI, 100, .inl (il5 (upd k0 pts kind) (upd k1 pts a) (upd k2 pts b) (upd k3 pts cx) (upd k4 pts d)))), (qM4, .inl (cI, 7, .inl (fun k => nI (sn k)))), (qM5, .inl (cI, 56, .inl cor)), (qM6, .inl (cI, 40, .inl (fun k => nI (jn k)))), (qM7, .inl (cI, 24, .inl (fun k => nI (i4 cu se fi pr k)))), (qM8, .inl (cI, 20, .inl xx)), (qM9, .inl (cI, 20, .inl yy)), (qM10, .inl (cI, 7, .inl (fun k => nI (wn k)))), (qM11, .inl (cI, 7, .inl (fun k => nI (hn k)))), (qM12, .inl (cI, 7, .inl (fun k => nI (on k)))), (qM13, .inl (cI, 7, .inl (fun k => nI (be k))))] := hD
    refine lv_aload_n hx hb dX6_newPoint_80 rfl (lv_at hl 1 rfl) ?_
    refine va_get (D := G) (ci := 6) (v := .int (nI (pts + 1))) (C := RX6) (T := TX6) (N := 24) hx hb hts (fun _ h => List.mem_cons_of_mem _ (List.mem_append_right _ h)) hown hK.1 hP 0 rfl rfl 3 (by decide) (hts (.fieldLink RX6 84 "TailorHouseModel" "points" "I") (List.mem_of_getElem? (i := 1) rfl)) (fun _ h9 => h9) rfl dX6_newPoint_81 ?_
    refine lv_iconst (v := 1) hx hb dX6_newPoint_84 (by decide) ?_
    refine kx_isubN hx hb (pts + 1) 1 (by omega) dX6_newPoint_85 ?_
    exact W.iret (v := (nI ((pts + 1) - 1))) hx hb hr (fun t ht hW => ⟨⟨(nI ((pts + 1) - 1)), (upd k0 pts kind, upd k1 pts a, upd k2 pts b, upd k3 pts cx, upd k4 pts d, pts + 1), rfl, by show ite _ _ _; rw [if_pos (show pts < 20 by omega)]; simp, by (show va_P G vwCl _ t.heap; rw [ht]; exact hP)⟩, hS.F ht⟩) hS.2.2 dX6_newPoint_86 hlocks
  · skip
    refine lv_bipush (v := (-4)) hx hb dX6_newPoint_9 (by decide) ?_
    exact W.iret (v := (-4)) hx hb hr (fun t ht hW => ⟨⟨(-4), (k0, k1, k2, k3, k4, pts), rfl, by show ite _ _ _; rw [if_neg (show ¬ pts < 20 by omega)]; exact ⟨rfl, rfl, rfl, rfl, rfl, rfl, rfl⟩, by (show va_P G vwCl _ t.heap; rw [ht]; exact hP)⟩, hS.F ht⟩) hS.2.2 dX6_newPoint_11 hlocks
theorem h_X6_fixed (cI cZ : ClassId) (qM : Nat) (qM1 : Nat) (qM2 : Nat) (qM3 : Nat) (qM4 : Nat) (qM5 : Nat) (qM6 : Nat) (qM7 : Nat) (qM8 : Nat) (qM9 : Nat) (qM10 : Nat) (qM11 : Nat) (qM12 : Nat) (qM13 : Nat) (hd : Nat → Int32) (bd : Nat → Int32) (ms : Nat → Int32) (dy : Nat → Int32) (vl : Nat → Int32) (hbt : Nat → Int32) (k0 : Nat → Int32) (k1 : Nat → Int32) (k2 : Nat → Int32) (k3 : Nat → Int32) (k4 : Nat → Int32) (sn : Nat → Nat) (cor : Nat → Int32) (jn : Nat → Nat) (cu : Nat → Nat) (se : Nat → Nat) (fi : Nat → Nat) (pr : Nat → Nat) (xx : Nat → Int32) (yy : Nat → Int32) (wn : Nat → Nat) (hn : Nat → Nat) (on : Nat → Nat) (be : Nat → Nat) (told : Nat) (pts : Nat) (pcs : Nat) (sms : Nat) (wd : Nat) (ck : Nat) (nc : Nat) (lt : Nat) (en : Nat) (bl : Nat) (bn : Nat) : ∀ u, (((fun u : (Nat → Int32) × (Nat → Int32) × (Nat → Int32) × (Nat → Int32) × (Nat → Int32) × Nat => [(qM, .inr (6, [.int (nI told), .ref qM1, .ref qM2, .int (nI u.2.2.2.2.2), .ref qM3, .int (nI pcs), .ref qM4, .ref qM5, .int (nI sms), .ref qM6, .int (nI wd), .int (nI ck), .int (nI nc), .ref qM7, .ref qM8, .ref qM9, .ref qM10, .ref qM11, .ref qM12, .ref qM13, .int (nI lt), .int (nI en), .int (nI bl), .int (nI bn)])), (qM1, .inl (cI, 200, .inl (il5 hd bd ms dy vl))), (qM2, .inl (cI, 24, .inl hbt)), (qM3, .inl (cI, 100, .inl (il5 u.1 u.2.1 u.2.2.1 u.2.2.2.1 u.2.2.2.2.1))), (qM4, .inl (cI, 7, .inl (fun k => nI (sn k)))), (qM5, .inl (cI, 56, .inl cor)), (qM6, .inl (cI, 40, .inl (fun k => nI (jn k)))), (qM7, .inl (cI, 24, .inl (fun k => nI (i4 cu se fi pr k)))), (qM8, .inl (cI, 20, .inl xx)), (qM9, .inl (cI, 20, .inl yy)), (qM10, .inl (cI, 7, .inl (fun k => nI (wn k)))), (qM11, .inl (cI, 7, .inl (fun k => nI (hn k)))), (qM12, .inl (cI, 7, .inl (fun k => nI (on k)))), (qM13, .inl (cI, 7, .inl (fun k => nI (be k))))]) : ((Nat → Int32) × (Nat → Int32) × (Nat → Int32) × (Nat → Int32) × (Nat → Int32) × Nat) → va_W) u).map Prod.fst = ([(qM, .inr (6, [.int (nI told), .ref qM1, .ref qM2, .int (nI pts), .ref qM3, .int (nI pcs), .ref qM4, .ref qM5, .int (nI sms), .ref qM6, .int (nI wd), .int (nI ck), .int (nI nc), .ref qM7, .ref qM8, .ref qM9, .ref qM10, .ref qM11, .ref qM12, .ref qM13, .int (nI lt), .int (nI en), .int (nI bl), .int (nI bn)])), (qM1, .inl (cI, 200, .inl (il5 hd bd ms dy vl))), (qM2, .inl (cI, 24, .inl hbt)), (qM3, .inl (cI, 100, .inl (il5 k0 k1 k2 k3 k4))), (qM4, .inl (cI, 7, .inl (fun k => nI (sn k)))), (qM5, .inl (cI, 56, .inl cor)), (qM6, .inl (cI, 40, .inl (fun k => nI (jn k)))), (qM7, .inl (cI, 24, .inl (fun k => nI (i4 cu se fi pr k)))), (qM8, .inl (cI, 20, .inl xx)), (qM9, .inl (cI, 20, .inl yy)), (qM10, .inl (cI, 7, .inl (fun k => nI (wn k)))), (qM11, .inl (cI, 7, .inl (fun k => nI (hn k)))), (qM12, .inl (cI, 7, .inl (fun k => nI (on k)))), (qM13, .inl (cI, 7, .inl (fun k => nI (be k))))] : va_W).map Prod.fst := fun _ => rfl
abbrev rm_X6_fixed : Room := { frames := 2, cells := 0, slots := 0, locals := 42 }
set_option maxHeartbeats 4000000 in
set_option maxRecDepth 100000 in
theorem c_X6_fixed (l : Launch) (G : va_G) (cI cZ : ClassId) (qM : Nat) (qM1 : Nat) (qM2 : Nat) (qM3 : Nat) (qM4 : Nat) (qM5 : Nat) (qM6 : Nat) (qM7 : Nat) (qM8 : Nat) (qM9 : Nat) (qM10 : Nat) (qM11 : Nat) (qM12 : Nat) (qM13 : Nat) (hd : Nat → Int32) (bd : Nat → Int32) (ms : Nat → Int32) (dy : Nat → Int32) (vl : Nat → Int32) (hbt : Nat → Int32) (k0 : Nat → Int32) (k1 : Nat → Int32) (k2 : Nat → Int32) (k3 : Nat → Int32) (k4 : Nat → Int32) (sn : Nat → Nat) (cor : Nat → Int32) (jn : Nat → Nat) (cu : Nat → Nat) (se : Nat → Nat) (fi : Nat → Nat) (pr : Nat → Nat) (xx : Nat → Int32) (yy : Nat → Int32) (wn : Nat → Nat) (hn : Nat → Nat) (on : Nat → Nat) (be : Nat → Nat) (told : Nat) (pts : Nat) (pcs : Nat) (sms : Nat) (wd : Nat) (ck : Nat) (nc : Nat) (lt : Nat) (en : Nat) (bl : Nat) (bn : Nat) (sz : Nat) (a : Int32) (b : Int32) (hpo : pts ≤ 20) : Met l yX6_fixed wsX6_fixed rm_X6_fixed (kx_Pw G cI cZ [(qM, .inr (6, [.int (nI told), .ref qM1, .ref qM2, .int (nI pts), .ref qM3, .int (nI pcs), .ref qM4, .ref qM5, .int (nI sms), .ref qM6, .int (nI wd), .int (nI ck), .int (nI nc), .ref qM7, .ref qM8, .ref qM9, .ref qM10, .ref qM11, .ref qM12, .ref qM13, .int (nI lt), .int (nI en), .int (nI bl), .int (nI bn)])), (qM1, .inl (cI, 200, .inl (il5 hd bd ms dy vl))), (qM2, .inl (cI, 24, .inl hbt)), (qM3, .inl (cI, 100, .inl (il5 k0 k1 k2 k3 k4))), (qM4, .inl (cI, 7, .inl (fun k => nI (sn k)))), (qM5, .inl (cI, 56, .inl cor)), (qM6, .inl (cI, 40, .inl (fun k => nI (jn k)))), (qM7, .inl (cI, 24, .inl (fun k => nI (i4 cu se fi pr k)))), (qM8, .inl (cI, 20, .inl xx)), (qM9, .inl (cI, 20, .inl yy)), (qM10, .inl (cI, 7, .inl (fun k => nI (wn k)))), (qM11, .inl (cI, 7, .inl (fun k => nI (hn k)))), (qM12, .inl (cI, 7, .inl (fun k => nI (on k)))), (qM13, .inl (cI, 7, .inl (fun k => nI (be k))))] sz [.ref qM, .int a, .int b]) (va_Qi (fun (r : Int32) (u : (Nat → Int32) × (Nat → Int32) × (Nat → Int32) × (Nat → Int32) × (Nat → Int32) × Nat) => if ((-5000) ≤ a ∧ a ≤ 5000) ∧ ((-5000) ≤ b ∧ b ≤ 5000) then (if pts < 20 then r = nI pts ∧ u.1 = upd k0 pts 0 ∧ u.2.1 = upd k1 pts a ∧ u.2.2.1 = upd k2 pts b ∧ u.2.2.2.1 = upd k3 pts 0 ∧ u.2.2.2.2.1 = upd k4 pts 0 ∧ u.2.2.2.2.2 = pts + 1 else r = -4 ∧ u.1 = k0 ∧ u.2.1 = k1 ∧ u.2.2.1 = k2 ∧ u.2.2.2.1 = k3 ∧ u.2.2.2.2.1 = k4 ∧ u.2.2.2.2.2 = pts) else (r = -2 ∧ u.1 = k0 ∧ u.2.1 = k1 ∧ u.2.2.1 = k2 ∧ u.2.2.2.1 = k3 ∧ u.2.2.2.2.1 = k4 ∧ u.2.2.2.2.2 = pts)) (fun u t => va_P G vwCl ((fun u : (Nat → Int32) × (Nat → Int32) × (Nat → Int32) × (Nat → Int32) × (Nat → Int32) × Nat => [(qM, .inr (6, [.int (nI told), .ref qM1, .ref qM2, .int (nI u.2.2.2.2.2), .ref qM3, .int (nI pcs), .ref qM4, .ref qM5, .int (nI sms), .ref qM6, .int (nI wd), .int (nI ck), .int (nI nc), .ref qM7, .ref qM8, .ref qM9, .ref qM10, .ref qM11, .ref qM12, .ref qM13, .int (nI lt), .int (nI en), .int (nI bl), .int (nI bn)])), (qM1, .inl (cI, 200, .inl (il5 hd bd ms dy vl))), (qM2, .inl (cI, 24, .inl hbt)), (qM3, .inl (cI, 100, .inl (il5 u.1 u.2.1 u.2.2.1 u.2.2.2.1 u.2.2.2.2.1))), (qM4, .inl (cI, 7, .inl (fun k => nI (sn k)))), (qM5, .inl (cI, 56, .inl cor)), (qM6, .inl (cI, 40, .inl (fun k => nI (jn k)))), (qM7, .inl (cI, 24, .inl (fun k => nI (i4 cu se fi pr k)))), (qM8, .inl (cI, 20, .inl xx)), (qM9, .inl (cI, 20, .inl yy)), (qM10, .inl (cI, 7, .inl (fun k => nI (wn k)))), (qM11, .inl (cI, 7, .inl (fun k => nI (hn k)))), (qM12, .inl (cI, 7, .inl (fun k => nI (on k)))), (qM13, .inl (cI, 7, .inl (fun k => nI (be k))))]) u) t.heap) (va_A [(qM, .inr (6, [.int (nI told), .ref qM1, .ref qM2, .int (nI pts), .ref qM3, .int (nI pcs), .ref qM4, .ref qM5, .int (nI sms), .ref qM6, .int (nI wd), .int (nI ck), .int (nI nc), .ref qM7, .ref qM8, .ref qM9, .ref qM10, .ref qM11, .ref qM12, .ref qM13, .int (nI lt), .int (nI en), .int (nI bl), .int (nI bn)])), (qM1, .inl (cI, 200, .inl (il5 hd bd ms dy vl))), (qM2, .inl (cI, 24, .inl hbt)), (qM3, .inl (cI, 100, .inl (il5 k0 k1 k2 k3 k4))), (qM4, .inl (cI, 7, .inl (fun k => nI (sn k)))), (qM5, .inl (cI, 56, .inl cor)), (qM6, .inl (cI, 40, .inl (fun k => nI (jn k)))), (qM7, .inl (cI, 24, .inl (fun k => nI (i4 cu se fi pr k)))), (qM8, .inl (cI, 20, .inl xx)), (qM9, .inl (cI, 20, .inl yy)), (qM10, .inl (cI, 7, .inl (fun k => nI (wn k)))), (qM11, .inl (cI, 7, .inl (fun k => nI (hn k)))), (qM12, .inl (cI, 7, .inl (fun k => nI (on k)))), (qM13, .inl (cI, 7, .inl (fun k => nI (be k))))] sz)) 0 0 (va_A [(qM, .inr (6, [.int (nI told), .ref qM1, .ref qM2, .int (nI pts), .ref qM3, .int (nI pcs), .ref qM4, .ref qM5, .int (nI sms), .ref qM6, .int (nI wd), .int (nI ck), .int (nI nc), .ref qM7, .ref qM8, .ref qM9, .ref qM10, .ref qM11, .ref qM12, .ref qM13, .int (nI lt), .int (nI en), .int (nI bl), .int (nI bn)])), (qM1, .inl (cI, 200, .inl (il5 hd bd ms dy vl))), (qM2, .inl (cI, 24, .inl hbt)), (qM3, .inl (cI, 100, .inl (il5 k0 k1 k2 k3 k4))), (qM4, .inl (cI, 7, .inl (fun k => nI (sn k)))), (qM5, .inl (cI, 56, .inl cor)), (qM6, .inl (cI, 40, .inl (fun k => nI (jn k)))), (qM7, .inl (cI, 24, .inl (fun k => nI (i4 cu se fi pr k)))), (qM8, .inl (cI, 20, .inl xx)), (qM9, .inl (cI, 20, .inl yy)), (qM10, .inl (cI, 7, .inl (fun k => nI (wn k)))), (qM11, .inl (cI, 7, .inl (fun k => nI (hn k)))), (qM12, .inl (cI, 7, .inl (fun k => nI (on k)))), (qM13, .inl (cI, 7, .inl (fun k => nI (be k))))] sz) := by
  refine Met.ofW (cc := cX6_fixed) (maxL := 3) (ret := (some .int)) (by decide) rfl ?_
  intro p e s m args below meth c s₁ B hml hv
  obtain ⟨rfl, hsz, hP, hD0, hK⟩ := hv
  have hx := B.exec
  have hb := B.bytes
  have hr := B.returns
  have hts := atoms_spec (ws := wsX6_fixed) B.pre
  have hown : s.vm.findClass RX6 = some m.cls := findClass_of_methodNamed B.named
  have hlocks := B.notSynchronized
  subst hsz
  have hD := hD0.self (sz := s.heap.size)
  generalize hAe : va_A [(qM, .inr (6, [.int (nI told), .ref qM1, .ref qM2, .int (nI pts), .ref qM3, .int (nI pcs), .ref qM4, .ref qM5, .int (nI sms), .ref qM6, .int (nI wd), .int (nI ck), .int (nI nc), .ref qM7, .ref qM8, .ref qM9, .ref qM10, .ref qM11, .ref qM12, .ref qM13, .int (nI lt), .int (nI en), .int (nI bl), .int (nI bn)])), (qM1, .inl (cI, 200, .inl (il5 hd bd ms dy vl))), (qM2, .inl (cI, 24, .inl hbt)), (qM3, .inl (cI, 100, .inl (il5 k0 k1 k2 k3 k4))), (qM4, .inl (cI, 7, .inl (fun k => nI (sn k)))), (qM5, .inl (cI, 56, .inl cor)), (qM6, .inl (cI, 40, .inl (fun k => nI (jn k)))), (qM7, .inl (cI, 24, .inl (fun k => nI (i4 cu se fi pr k)))), (qM8, .inl (cI, 20, .inl xx)), (qM9, .inl (cI, 20, .inl yy)), (qM10, .inl (cI, 7, .inl (fun k => nI (wn k)))), (qM11, .inl (cI, 7, .inl (fun k => nI (hn k)))), (qM12, .inl (cI, 7, .inl (fun k => nI (on k)))), (qM13, .inl (cI, 7, .inl (fun k => nI (be k))))] s.heap.size = A at hD ⊢
  have hA : ∀ q : Nat, s.heap.size ≤ q → A q := fun q h => by rw [← hAe]; exact Or.inr h
  have hS : va_S A s.heap s.heap [] := va_S.rf
  have hl := lv_entry ([.ref qM, .int a, .int b]) (n := 3) (Nat.le_of_ble_eq_true rfl)
  rw [lg_entry_eq]
  generalize (lg_sl ([.ref qM, .int a, .int b]) ++ List.replicate (3 - (lg_sl ([.ref qM, .int a, .int b])).length) Slot.unset).toArray = ls at hl ⊢
  have hl : lv_has ls 3 [(0, .ref qM), (1, .int a), (2, .int b)] := hl
  refine lv_iload_n hx hb dX6_fixed_0 rfl (lv_at hl 1 rfl) ?_
  refine kx_ri (va_runS (As := [.int a]) (rest := []) ⟨hx, hb, hml, hown, hts⟩ (c_X6_isPlace l a) (va_cwS 1 hts gX6_fixed_X6_isPlace rfl rfl rfl (by decide +kernel) ⟨(Nat.le_of_ble_eq_true rfl), (Nat.le_of_ble_eq_true rfl)⟩) kx_preS rfl rfl hl.1 rfl (lv_room (Nat.le_of_ble_eq_true rfl)) dX6_fixed_1 ⟨Nat.zero_le _, Nat.zero_le _⟩) ?_
  refine kx_ifeqB hx hb ((-5000) ≤ a ∧ a ≤ 5000) (tgt := 26) dX6_fixed_4 (by decide) (fun c_1 => ?_) (fun c_1 => ?_)
  · skip
    refine lv_bipush (v := (-2)) hx hb dX6_fixed_26 (by decide) ?_
    exact W.iret (v := (-2)) hx hb hr (fun t ht hW => ⟨⟨(-2), (k0, k1, k2, k3, k4, pts), rfl, by show ite _ _ _; rw [if_neg (fun h => by obtain ⟨h1, h2⟩ := h; first | exact absurd (by assumption) c_1 | contradiction)]; exact ⟨rfl, rfl, rfl, rfl, rfl, rfl, rfl⟩, by (show va_P G vwCl _ t.heap; rw [ht]; exact hP)⟩, hS.F ht⟩) hS.2.2 dX6_fixed_28 hlocks
  · skip
    refine lv_iload_n hx hb dX6_fixed_7 rfl (lv_at hl 2 rfl) ?_
    refine kx_ri (va_runS (As := [.int b]) (rest := []) ⟨hx, hb, hml, hown, hts⟩ (c_X6_isPlace l b) (va_cwS 1 hts gX6_fixed_X6_isPlace rfl rfl rfl (by decide +kernel) ⟨(Nat.le_of_ble_eq_true rfl), (Nat.le_of_ble_eq_true rfl)⟩) kx_preS rfl rfl hl.1 rfl (lv_room (Nat.le_of_ble_eq_true rfl)) dX6_fixed_8 ⟨Nat.zero_le _, Nat.zero_le _⟩) ?_
    refine kx_ifeqB hx hb ((-5000) ≤ b ∧ b ≤ 5000) (tgt := 26) dX6_fixed_11 (by decide) (fun c_2 => ?_) (fun c_2 => ?_)
    · skip
      refine lv_bipush (v := (-2)) hx hb dX6_fixed_26 (by decide) ?_
      exact W.iret (v := (-2)) hx hb hr (fun t ht hW => ⟨⟨(-2), (k0, k1, k2, k3, k4, pts), rfl, by show ite _ _ _; rw [if_neg (fun h => by obtain ⟨h1, h2⟩ := h; first | exact absurd (by assumption) c_2 | contradiction)]; exact ⟨rfl, rfl, rfl, rfl, rfl, rfl, rfl⟩, by (show va_P G vwCl _ t.heap; rw [ht]; exact hP)⟩, hS.F ht⟩) hS.2.2 dX6_fixed_28 hlocks
    · skip
      refine lv_aload_n hx hb dX6_fixed_14 rfl (lv_at hl 0 rfl) ?_
      refine lv_iconst (v := 0) hx hb dX6_fixed_15 (by decide) ?_
      refine lv_iload_n hx hb dX6_fixed_16 rfl (lv_at hl 1 rfl) ?_
      refine lv_iload_n hx hb dX6_fixed_17 rfl (lv_at hl 2 rfl) ?_
      refine lv_iconst (v := 0) hx hb dX6_fixed_18 (by decide) ?_
      refine lv_iconst (v := 0) hx hb dX6_fixed_19 (by decide) ?_
      refine kx_wi (va_runV (As := [.int 0, .int a, .int b, .int 0, .int 0]) (rest := []) ⟨hx, hb, hml, hown, hts⟩ (c_X6_newPoint l G cI cZ qM qM1 qM2 qM3 qM4 qM5 qM6 qM7 qM8 qM9 qM10 qM11 qM12 qM13 hd bd ms dy vl hbt k0 k1 k2 k3 k4 sn cor jn cu se fi pr xx yy wn hn on be told pts pcs sms wd ck nc lt en bl bn (s.heap).size 0 a b 0 0 (by first | assumption | omega)) (cwV 5 hts gX6_fixed_X6_newPoint rfl rfl rfl (by decide +kernel) ⟨(Nat.le_of_ble_eq_true rfl), (Nat.le_of_ble_eq_true rfl)⟩) (kx_preW hK (kx_sub 0 14 hP rfl) (kx_subD 0 14 hD rfl) 0 rfl rfl) rfl rfl hl.1 rfl (lv_room (Nat.le_of_ble_eq_true rfl)) dX6_fixed_20 ⟨Nat.zero_le _, Nat.zero_le _⟩) hP hD hS hA 0 14 rfl (h_X6_newPoint cI cZ qM qM1 qM2 qM3 qM4 qM5 qM6 qM7 qM8 qM9 qM10 qM11 qM12 qM13 hd bd ms dy vl hbt k0 k1 k2 k3 k4 sn cor jn cu se fi pr xx yy wn hn on be told pts pcs sms wd ck nc lt en bl bn) (fun r_3 u H locs hw_3 hP hD hS => ?_)
      obtain ⟨k0_3, k1_3, k2_3, k3_3, k4_3, pts_3⟩ := u
      have hP : va_P G vwCl [(qM, .inr (6, [.int (nI told), .ref qM1, .ref qM2, .int (nI pts_3), .ref qM3, .int (nI pcs), .ref qM4, .ref qM5, .int (nI sms), .ref qM6, .int (nI wd), .int (nI ck), .int (nI nc), .ref qM7, .ref qM8, .ref qM9, .ref qM10, .ref qM11, .ref qM12, .ref qM13, .int (nI lt), .int (nI en), .int (nI bl), .int (nI bn)])), (qM1, .inl (cI, 200, .inl (il5 hd bd ms dy vl))), (qM2, .inl (cI, 24, .inl hbt)), (qM3, .inl (cI, 100, .inl (il5 k0_3 k1_3 k2_3 k3_3 k4_3))), (qM4, .inl (cI, 7, .inl (fun k => nI (sn k)))), (qM5, .inl (cI, 56, .inl cor)), (qM6, .inl (cI, 40, .inl (fun k => nI (jn k)))), (qM7, .inl (cI, 24, .inl (fun k => nI (i4 cu se fi pr k)))), (qM8, .inl (cI, 20, .inl xx)), (qM9, .inl (cI, 20, .inl yy)), (qM10, .inl (cI, 7, .inl (fun k => nI (wn k)))), (qM11, .inl (cI, 7, .inl (fun k => nI (hn k)))), (qM12, .inl (cI, 7, .inl (fun k => nI (on k)))), (qM13, .inl (cI, 7, .inl (fun k => nI (be k))))] H := hP
      have hD : va_D A [(qM, .inr (6, [.int (nI told), .ref qM1, .ref qM2, .int (nI pts_3), .ref qM3, .int (nI pcs), .ref qM4, .ref qM5, .int (nI sms), .ref qM6, .int (nI wd), .int (nI ck), .int (nI nc), .ref qM7, .ref qM8, .ref qM9, .ref qM10, .ref qM11, .ref qM12, .ref qM13, .int (nI lt), .int (nI en), .int (nI bl), .int (nI bn)])), (qM1, .inl (cI, 200, .inl (il5 hd bd ms dy vl))), (qM2, .inl (cI, 24, .inl hbt)), (qM3, .inl (cI, 100, .inl (il5 k0_3 k1_3 k2_3 k3_3 k4_3))), (qM4, .inl (cI, 7, .inl (fun k => nI (sn k)))), (qM5, .inl (cI, 56, .inl cor)), (qM6, .inl (cI, 40, .inl (fun k => nI (jn k)))), (qM7, .inl (cI, 24, .inl (fun k => nI (i4 cu se fi pr k)))), (qM8, .inl (cI, 20, .inl xx)), (qM9, .inl (cI, 20, .inl yy)), (qM10, .inl (cI, 7, .inl (fun k => nI (wn k)))), (qM11, .inl (cI, 7, .inl (fun k => nI (hn k)))), (qM12, .inl (cI, 7, .inl (fun k => nI (on k)))), (qM13, .inl (cI, 7, .inl (fun k => nI (be k))))] := hD
      have hw_3 : if pts < 20 then r_3 = nI pts ∧ k0_3 = upd k0 pts 0 ∧ k1_3 = upd k1 pts a ∧ k2_3 = upd k2 pts b ∧ k3_3 = upd k3 pts 0 ∧ k4_3 = upd k4 pts 0 ∧ pts_3 = pts + 1 else r_3 = -4 ∧ k0_3 = k0 ∧ k1_3 = k1 ∧ k2_3 = k2 ∧ k3_3 = k3 ∧ k4_3 = k4 ∧ pts_3 = pts := hw_3
      refine lv_goto (tgt := 28) hx hb dX6_fixed_23 (by decide) ?_
      exact W.iret (v := r_3) hx hb hr (fun t ht hW => ⟨⟨r_3, (k0_3, k1_3, k2_3, k3_3, k4_3, pts_3), rfl, by show ite _ _ _; rw [if_pos ⟨c_1, c_2⟩]; exact hw_3, by (show va_P G vwCl _ t.heap; rw [ht]; exact hP)⟩, hS.F ht⟩) hS.2.2 dX6_fixed_28 hlocks
theorem h_X6_off (cI cZ : ClassId) (qM : Nat) (qM1 : Nat) (qM2 : Nat) (qM3 : Nat) (qM4 : Nat) (qM5 : Nat) (qM6 : Nat) (qM7 : Nat) (qM8 : Nat) (qM9 : Nat) (qM10 : Nat) (qM11 : Nat) (qM12 : Nat) (qM13 : Nat) (hd : Nat → Int32) (bd : Nat → Int32) (ms : Nat → Int32) (dy : Nat → Int32) (vl : Nat → Int32) (hbt : Nat → Int32) (k0 : Nat → Int32) (k1 : Nat → Int32) (k2 : Nat → Int32) (k3 : Nat → Int32) (k4 : Nat → Int32) (sn : Nat → Nat) (cor : Nat → Int32) (jn : Nat → Nat) (cu : Nat → Nat) (se : Nat → Nat) (fi : Nat → Nat) (pr : Nat → Nat) (xx : Nat → Int32) (yy : Nat → Int32) (wn : Nat → Nat) (hn : Nat → Nat) (on : Nat → Nat) (be : Nat → Nat) (told : Nat) (pts : Nat) (pcs : Nat) (sms : Nat) (wd : Nat) (ck : Nat) (nc : Nat) (lt : Nat) (en : Nat) (bl : Nat) (bn : Nat) : ∀ u, (((fun u : (Nat → Int32) × (Nat → Int32) × (Nat → Int32) × (Nat → Int32) × (Nat → Int32) × Nat => [(qM, .inr (6, [.int (nI told), .ref qM1, .ref qM2, .int (nI u.2.2.2.2.2), .ref qM3, .int (nI pcs), .ref qM4, .ref qM5, .int (nI sms), .ref qM6, .int (nI wd), .int (nI ck), .int (nI nc), .ref qM7, .ref qM8, .ref qM9, .ref qM10, .ref qM11, .ref qM12, .ref qM13, .int (nI lt), .int (nI en), .int (nI bl), .int (nI bn)])), (qM1, .inl (cI, 200, .inl (il5 hd bd ms dy vl))), (qM2, .inl (cI, 24, .inl hbt)), (qM3, .inl (cI, 100, .inl (il5 u.1 u.2.1 u.2.2.1 u.2.2.2.1 u.2.2.2.2.1))), (qM4, .inl (cI, 7, .inl (fun k => nI (sn k)))), (qM5, .inl (cI, 56, .inl cor)), (qM6, .inl (cI, 40, .inl (fun k => nI (jn k)))), (qM7, .inl (cI, 24, .inl (fun k => nI (i4 cu se fi pr k)))), (qM8, .inl (cI, 20, .inl xx)), (qM9, .inl (cI, 20, .inl yy)), (qM10, .inl (cI, 7, .inl (fun k => nI (wn k)))), (qM11, .inl (cI, 7, .inl (fun k => nI (hn k)))), (qM12, .inl (cI, 7, .inl (fun k => nI (on k)))), (qM13, .inl (cI, 7, .inl (fun k => nI (be k))))]) : ((Nat → Int32) × (Nat → Int32) × (Nat → Int32) × (Nat → Int32) × (Nat → Int32) × Nat) → va_W) u).map Prod.fst = ([(qM, .inr (6, [.int (nI told), .ref qM1, .ref qM2, .int (nI pts), .ref qM3, .int (nI pcs), .ref qM4, .ref qM5, .int (nI sms), .ref qM6, .int (nI wd), .int (nI ck), .int (nI nc), .ref qM7, .ref qM8, .ref qM9, .ref qM10, .ref qM11, .ref qM12, .ref qM13, .int (nI lt), .int (nI en), .int (nI bl), .int (nI bn)])), (qM1, .inl (cI, 200, .inl (il5 hd bd ms dy vl))), (qM2, .inl (cI, 24, .inl hbt)), (qM3, .inl (cI, 100, .inl (il5 k0 k1 k2 k3 k4))), (qM4, .inl (cI, 7, .inl (fun k => nI (sn k)))), (qM5, .inl (cI, 56, .inl cor)), (qM6, .inl (cI, 40, .inl (fun k => nI (jn k)))), (qM7, .inl (cI, 24, .inl (fun k => nI (i4 cu se fi pr k)))), (qM8, .inl (cI, 20, .inl xx)), (qM9, .inl (cI, 20, .inl yy)), (qM10, .inl (cI, 7, .inl (fun k => nI (wn k)))), (qM11, .inl (cI, 7, .inl (fun k => nI (hn k)))), (qM12, .inl (cI, 7, .inl (fun k => nI (on k)))), (qM13, .inl (cI, 7, .inl (fun k => nI (be k))))] : va_W).map Prod.fst := fun _ => rfl
abbrev rm_X6_off : Room := { frames := 2, cells := 0, slots := 0, locals := 43 }
set_option maxHeartbeats 4000000 in
set_option maxRecDepth 100000 in
theorem c_X6_off (l : Launch) (G : va_G) (cI cZ : ClassId) (qM : Nat) (qM1 : Nat) (qM2 : Nat) (qM3 : Nat) (qM4 : Nat) (qM5 : Nat) (qM6 : Nat) (qM7 : Nat) (qM8 : Nat) (qM9 : Nat) (qM10 : Nat) (qM11 : Nat) (qM12 : Nat) (qM13 : Nat) (hd : Nat → Int32) (bd : Nat → Int32) (ms : Nat → Int32) (dy : Nat → Int32) (vl : Nat → Int32) (hbt : Nat → Int32) (k0 : Nat → Int32) (k1 : Nat → Int32) (k2 : Nat → Int32) (k3 : Nat → Int32) (k4 : Nat → Int32) (sn : Nat → Nat) (cor : Nat → Int32) (jn : Nat → Nat) (cu : Nat → Nat) (se : Nat → Nat) (fi : Nat → Nat) (pr : Nat → Nat) (xx : Nat → Int32) (yy : Nat → Int32) (wn : Nat → Nat) (hn : Nat → Nat) (on : Nat → Nat) (be : Nat → Nat) (told : Nat) (pts : Nat) (pcs : Nat) (sms : Nat) (wd : Nat) (ck : Nat) (nc : Nat) (lt : Nat) (en : Nat) (bl : Nat) (bn : Nat) (sz : Nat) (pq : Int32) (a : Int32) (b : Int32) (hpo : pts ≤ 20) : Met l yX6_off wsX6_off rm_X6_off (kx_Pw G cI cZ [(qM, .inr (6, [.int (nI told), .ref qM1, .ref qM2, .int (nI pts), .ref qM3, .int (nI pcs), .ref qM4, .ref qM5, .int (nI sms), .ref qM6, .int (nI wd), .int (nI ck), .int (nI nc), .ref qM7, .ref qM8, .ref qM9, .ref qM10, .ref qM11, .ref qM12, .ref qM13, .int (nI lt), .int (nI en), .int (nI bl), .int (nI bn)])), (qM1, .inl (cI, 200, .inl (il5 hd bd ms dy vl))), (qM2, .inl (cI, 24, .inl hbt)), (qM3, .inl (cI, 100, .inl (il5 k0 k1 k2 k3 k4))), (qM4, .inl (cI, 7, .inl (fun k => nI (sn k)))), (qM5, .inl (cI, 56, .inl cor)), (qM6, .inl (cI, 40, .inl (fun k => nI (jn k)))), (qM7, .inl (cI, 24, .inl (fun k => nI (i4 cu se fi pr k)))), (qM8, .inl (cI, 20, .inl xx)), (qM9, .inl (cI, 20, .inl yy)), (qM10, .inl (cI, 7, .inl (fun k => nI (wn k)))), (qM11, .inl (cI, 7, .inl (fun k => nI (hn k)))), (qM12, .inl (cI, 7, .inl (fun k => nI (on k)))), (qM13, .inl (cI, 7, .inl (fun k => nI (be k))))] sz [.ref qM, .int pq, .int a, .int b]) (va_Qi (fun (r : Int32) (u : (Nat → Int32) × (Nat → Int32) × (Nat → Int32) × (Nat → Int32) × (Nat → Int32) × Nat) => if (0 ≤ pq ∧ pq ≤ nI pts - 1) ∧ ((-5000) ≤ a ∧ a ≤ 5000) ∧ ((-5000) ≤ b ∧ b ≤ 5000) then (if pts < 20 then r = nI pts ∧ u.1 = upd k0 pts 1 ∧ u.2.1 = upd k1 pts pq ∧ u.2.2.1 = upd k2 pts a ∧ u.2.2.2.1 = upd k3 pts b ∧ u.2.2.2.2.1 = upd k4 pts 0 ∧ u.2.2.2.2.2 = pts + 1 else r = -4 ∧ u.1 = k0 ∧ u.2.1 = k1 ∧ u.2.2.1 = k2 ∧ u.2.2.2.1 = k3 ∧ u.2.2.2.2.1 = k4 ∧ u.2.2.2.2.2 = pts) else (r = -2 ∧ u.1 = k0 ∧ u.2.1 = k1 ∧ u.2.2.1 = k2 ∧ u.2.2.2.1 = k3 ∧ u.2.2.2.2.1 = k4 ∧ u.2.2.2.2.2 = pts)) (fun u t => va_P G vwCl ((fun u : (Nat → Int32) × (Nat → Int32) × (Nat → Int32) × (Nat → Int32) × (Nat → Int32) × Nat => [(qM, .inr (6, [.int (nI told), .ref qM1, .ref qM2, .int (nI u.2.2.2.2.2), .ref qM3, .int (nI pcs), .ref qM4, .ref qM5, .int (nI sms), .ref qM6, .int (nI wd), .int (nI ck), .int (nI nc), .ref qM7, .ref qM8, .ref qM9, .ref qM10, .ref qM11, .ref qM12, .ref qM13, .int (nI lt), .int (nI en), .int (nI bl), .int (nI bn)])), (qM1, .inl (cI, 200, .inl (il5 hd bd ms dy vl))), (qM2, .inl (cI, 24, .inl hbt)), (qM3, .inl (cI, 100, .inl (il5 u.1 u.2.1 u.2.2.1 u.2.2.2.1 u.2.2.2.2.1))), (qM4, .inl (cI, 7, .inl (fun k => nI (sn k)))), (qM5, .inl (cI, 56, .inl cor)), (qM6, .inl (cI, 40, .inl (fun k => nI (jn k)))), (qM7, .inl (cI, 24, .inl (fun k => nI (i4 cu se fi pr k)))), (qM8, .inl (cI, 20, .inl xx)), (qM9, .inl (cI, 20, .inl yy)), (qM10, .inl (cI, 7, .inl (fun k => nI (wn k)))), (qM11, .inl (cI, 7, .inl (fun k => nI (hn k)))), (qM12, .inl (cI, 7, .inl (fun k => nI (on k)))), (qM13, .inl (cI, 7, .inl (fun k => nI (be k))))]) u) t.heap) (va_A [(qM, .inr (6, [.int (nI told), .ref qM1, .ref qM2, .int (nI pts), .ref qM3, .int (nI pcs), .ref qM4, .ref qM5, .int (nI sms), .ref qM6, .int (nI wd), .int (nI ck), .int (nI nc), .ref qM7, .ref qM8, .ref qM9, .ref qM10, .ref qM11, .ref qM12, .ref qM13, .int (nI lt), .int (nI en), .int (nI bl), .int (nI bn)])), (qM1, .inl (cI, 200, .inl (il5 hd bd ms dy vl))), (qM2, .inl (cI, 24, .inl hbt)), (qM3, .inl (cI, 100, .inl (il5 k0 k1 k2 k3 k4))), (qM4, .inl (cI, 7, .inl (fun k => nI (sn k)))), (qM5, .inl (cI, 56, .inl cor)), (qM6, .inl (cI, 40, .inl (fun k => nI (jn k)))), (qM7, .inl (cI, 24, .inl (fun k => nI (i4 cu se fi pr k)))), (qM8, .inl (cI, 20, .inl xx)), (qM9, .inl (cI, 20, .inl yy)), (qM10, .inl (cI, 7, .inl (fun k => nI (wn k)))), (qM11, .inl (cI, 7, .inl (fun k => nI (hn k)))), (qM12, .inl (cI, 7, .inl (fun k => nI (on k)))), (qM13, .inl (cI, 7, .inl (fun k => nI (be k))))] sz)) 0 0 (va_A [(qM, .inr (6, [.int (nI told), .ref qM1, .ref qM2, .int (nI pts), .ref qM3, .int (nI pcs), .ref qM4, .ref qM5, .int (nI sms), .ref qM6, .int (nI wd), .int (nI ck), .int (nI nc), .ref qM7, .ref qM8, .ref qM9, .ref qM10, .ref qM11, .ref qM12, .ref qM13, .int (nI lt), .int (nI en), .int (nI bl), .int (nI bn)])), (qM1, .inl (cI, 200, .inl (il5 hd bd ms dy vl))), (qM2, .inl (cI, 24, .inl hbt)), (qM3, .inl (cI, 100, .inl (il5 k0 k1 k2 k3 k4))), (qM4, .inl (cI, 7, .inl (fun k => nI (sn k)))), (qM5, .inl (cI, 56, .inl cor)), (qM6, .inl (cI, 40, .inl (fun k => nI (jn k)))), (qM7, .inl (cI, 24, .inl (fun k => nI (i4 cu se fi pr k)))), (qM8, .inl (cI, 20, .inl xx)), (qM9, .inl (cI, 20, .inl yy)), (qM10, .inl (cI, 7, .inl (fun k => nI (wn k)))), (qM11, .inl (cI, 7, .inl (fun k => nI (hn k)))), (qM12, .inl (cI, 7, .inl (fun k => nI (on k)))), (qM13, .inl (cI, 7, .inl (fun k => nI (be k))))] sz) := by
  refine Met.ofW (cc := cX6_off) (maxL := 4) (ret := (some .int)) (by decide) rfl ?_
  intro p e s m args below meth c s₁ B hml hv
  obtain ⟨rfl, hsz, hP, hD0, hK⟩ := hv
  have hx := B.exec
  have hb := B.bytes
  have hr := B.returns
  have hts := atoms_spec (ws := wsX6_off) B.pre
  have hown : s.vm.findClass RX6 = some m.cls := findClass_of_methodNamed B.named
  have hlocks := B.notSynchronized
  subst hsz
  have hD := hD0.self (sz := s.heap.size)
  generalize hAe : va_A [(qM, .inr (6, [.int (nI told), .ref qM1, .ref qM2, .int (nI pts), .ref qM3, .int (nI pcs), .ref qM4, .ref qM5, .int (nI sms), .ref qM6, .int (nI wd), .int (nI ck), .int (nI nc), .ref qM7, .ref qM8, .ref qM9, .ref qM10, .ref qM11, .ref qM12, .ref qM13, .int (nI lt), .int (nI en), .int (nI bl), .int (nI bn)])), (qM1, .inl (cI, 200, .inl (il5 hd bd ms dy vl))), (qM2, .inl (cI, 24, .inl hbt)), (qM3, .inl (cI, 100, .inl (il5 k0 k1 k2 k3 k4))), (qM4, .inl (cI, 7, .inl (fun k => nI (sn k)))), (qM5, .inl (cI, 56, .inl cor)), (qM6, .inl (cI, 40, .inl (fun k => nI (jn k)))), (qM7, .inl (cI, 24, .inl (fun k => nI (i4 cu se fi pr k)))), (qM8, .inl (cI, 20, .inl xx)), (qM9, .inl (cI, 20, .inl yy)), (qM10, .inl (cI, 7, .inl (fun k => nI (wn k)))), (qM11, .inl (cI, 7, .inl (fun k => nI (hn k)))), (qM12, .inl (cI, 7, .inl (fun k => nI (on k)))), (qM13, .inl (cI, 7, .inl (fun k => nI (be k))))] s.heap.size = A at hD ⊢
  have hA : ∀ q : Nat, s.heap.size ≤ q → A q := fun q h => by rw [← hAe]; exact Or.inr h
  have hS : va_S A s.heap s.heap [] := va_S.rf
  have hl := lv_entry ([.ref qM, .int pq, .int a, .int b]) (n := 4) (Nat.le_of_ble_eq_true rfl)
  rw [lg_entry_eq]
  generalize (lg_sl ([.ref qM, .int pq, .int a, .int b]) ++ List.replicate (4 - (lg_sl ([.ref qM, .int pq, .int a, .int b])).length) Slot.unset).toArray = ls at hl ⊢
  have hl : lv_has ls 4 [(0, .ref qM), (1, .int pq), (2, .int a), (3, .int b)] := hl
  refine lv_aload_n hx hb dX6_off_0 rfl (lv_at hl 0 rfl) ?_
  refine lv_iload_n hx hb dX6_off_1 rfl (lv_at hl 1 rfl) ?_
  refine kx_ri (va_runV (As := [.int pq]) (rest := []) ⟨hx, hb, hml, hown, hts⟩ (c_X6_isPoint l G cI cZ qM qM1 qM2 qM3 qM4 qM5 qM6 qM7 qM8 qM9 qM10 qM11 qM12 qM13 hd bd ms dy vl hbt k0 k1 k2 k3 k4 sn cor jn cu se fi pr xx yy wn hn on be told pts pcs sms wd ck nc lt en bl bn pq) (cwV 1 hts gX6_off_X6_isPoint rfl rfl rfl (by decide +kernel) ⟨(Nat.le_of_ble_eq_true rfl), (Nat.le_of_ble_eq_true rfl)⟩) (kx_preR hK (kx_sub 0 14 hP rfl) 0 rfl rfl) rfl rfl hl.1 rfl (lv_room (Nat.le_of_ble_eq_true rfl)) dX6_off_2 ⟨Nat.zero_le _, Nat.zero_le _⟩) ?_
  refine kx_ifeqB hx hb (0 ≤ pq ∧ pq ≤ nI pts - 1) (tgt := 34) dX6_off_5 (by decide) (fun c_1 => ?_) (fun c_1 => ?_)
  · skip
    refine lv_bipush (v := (-2)) hx hb dX6_off_34 (by decide) ?_
    exact W.iret (v := (-2)) hx hb hr (fun t ht hW => ⟨⟨(-2), (k0, k1, k2, k3, k4, pts), rfl, by show ite _ _ _; rw [if_neg (fun h => by obtain ⟨h1, h2, h3⟩ := h; first | exact absurd (by assumption) c_1 | contradiction)]; exact ⟨rfl, rfl, rfl, rfl, rfl, rfl, rfl⟩, by (show va_P G vwCl _ t.heap; rw [ht]; exact hP)⟩, hS.F ht⟩) hS.2.2 dX6_off_36 hlocks
  · skip
    refine lv_iload_n hx hb dX6_off_8 rfl (lv_at hl 2 rfl) ?_
    refine kx_ri (va_runS (As := [.int a]) (rest := []) ⟨hx, hb, hml, hown, hts⟩ (c_X6_isPlace l a) (va_cwS 1 hts gX6_off_X6_isPlace rfl rfl rfl (by decide +kernel) ⟨(Nat.le_of_ble_eq_true rfl), (Nat.le_of_ble_eq_true rfl)⟩) kx_preS rfl rfl hl.1 rfl (lv_room (Nat.le_of_ble_eq_true rfl)) dX6_off_9 ⟨Nat.zero_le _, Nat.zero_le _⟩) ?_
    refine kx_ifeqB hx hb ((-5000) ≤ a ∧ a ≤ 5000) (tgt := 34) dX6_off_12 (by decide) (fun c_2 => ?_) (fun c_2 => ?_)
    · skip
      refine lv_bipush (v := (-2)) hx hb dX6_off_34 (by decide) ?_
      exact W.iret (v := (-2)) hx hb hr (fun t ht hW => ⟨⟨(-2), (k0, k1, k2, k3, k4, pts), rfl, by show ite _ _ _; rw [if_neg (fun h => by obtain ⟨h1, h2, h3⟩ := h; first | exact absurd (by assumption) c_2 | contradiction)]; exact ⟨rfl, rfl, rfl, rfl, rfl, rfl, rfl⟩, by (show va_P G vwCl _ t.heap; rw [ht]; exact hP)⟩, hS.F ht⟩) hS.2.2 dX6_off_36 hlocks
    · skip
      refine lv_iload_n hx hb dX6_off_15 rfl (lv_at hl 3 rfl) ?_
      refine kx_ri (va_runS (As := [.int b]) (rest := []) ⟨hx, hb, hml, hown, hts⟩ (c_X6_isPlace l b) (va_cwS 1 hts gX6_off_X6_isPlace rfl rfl rfl (by decide +kernel) ⟨(Nat.le_of_ble_eq_true rfl), (Nat.le_of_ble_eq_true rfl)⟩) kx_preS rfl rfl hl.1 rfl (lv_room (Nat.le_of_ble_eq_true rfl)) dX6_off_16 ⟨Nat.zero_le _, Nat.zero_le _⟩) ?_
      refine kx_ifeqB hx hb ((-5000) ≤ b ∧ b ≤ 5000) (tgt := 34) dX6_off_19 (by decide) (fun c_3 => ?_) (fun c_3 => ?_)
      · skip
        refine lv_bipush (v := (-2)) hx hb dX6_off_34 (by decide) ?_
        exact W.iret (v := (-2)) hx hb hr (fun t ht hW => ⟨⟨(-2), (k0, k1, k2, k3, k4, pts), rfl, by show ite _ _ _; rw [if_neg (fun h => by obtain ⟨h1, h2, h3⟩ := h; first | exact absurd (by assumption) c_3 | contradiction)]; exact ⟨rfl, rfl, rfl, rfl, rfl, rfl, rfl⟩, by (show va_P G vwCl _ t.heap; rw [ht]; exact hP)⟩, hS.F ht⟩) hS.2.2 dX6_off_36 hlocks
      · skip
        refine lv_aload_n hx hb dX6_off_22 rfl (lv_at hl 0 rfl) ?_
        refine lv_iconst (v := 1) hx hb dX6_off_23 (by decide) ?_
        refine lv_iload_n hx hb dX6_off_24 rfl (lv_at hl 1 rfl) ?_
        refine lv_iload_n hx hb dX6_off_25 rfl (lv_at hl 2 rfl) ?_
        refine lv_iload_n hx hb dX6_off_26 rfl (lv_at hl 3 rfl) ?_
        refine lv_iconst (v := 0) hx hb dX6_off_27 (by decide) ?_
        refine kx_wi (va_runV (As := [.int 1, .int pq, .int a, .int b, .int 0]) (rest := []) ⟨hx, hb, hml, hown, hts⟩ (c_X6_newPoint l G cI cZ qM qM1 qM2 qM3 qM4 qM5 qM6 qM7 qM8 qM9 qM10 qM11 qM12 qM13 hd bd ms dy vl hbt k0 k1 k2 k3 k4 sn cor jn cu se fi pr xx yy wn hn on be told pts pcs sms wd ck nc lt en bl bn (s.heap).size 1 pq a b 0 (by first | assumption | omega)) (cwV 5 hts gX6_off_X6_newPoint rfl rfl rfl (by decide +kernel) ⟨(Nat.le_of_ble_eq_true rfl), (Nat.le_of_ble_eq_true rfl)⟩) (kx_preW hK (kx_sub 0 14 hP rfl) (kx_subD 0 14 hD rfl) 0 rfl rfl) rfl rfl hl.1 rfl (lv_room (Nat.le_of_ble_eq_true rfl)) dX6_off_28 ⟨Nat.zero_le _, Nat.zero_le _⟩) hP hD hS hA 0 14 rfl (h_X6_newPoint cI cZ qM qM1 qM2 qM3 qM4 qM5 qM6 qM7 qM8 qM9 qM10 qM11 qM12 qM13 hd bd ms dy vl hbt k0 k1 k2 k3 k4 sn cor jn cu se fi pr xx yy wn hn on be told pts pcs sms wd ck nc lt en bl bn) (fun r_4 u H locs hw_4 hP hD hS => ?_)
        obtain ⟨k0_4, k1_4, k2_4, k3_4, k4_4, pts_4⟩ := u
        have hP : va_P G vwCl [(qM, .inr (6, [.int (nI told), .ref qM1, .ref qM2, .int (nI pts_4), .ref qM3, .int (nI pcs), .ref qM4, .ref qM5, .int (nI sms), .ref qM6, .int (nI wd), .int (nI ck), .int (nI nc), .ref qM7, .ref qM8, .ref qM9, .ref qM10, .ref qM11, .ref qM12, .ref qM13, .int (nI lt), .int (nI en), .int (nI bl), .int (nI bn)])), (qM1, .inl (cI, 200, .inl (il5 hd bd ms dy vl))), (qM2, .inl (cI, 24, .inl hbt)), (qM3, .inl (cI, 100, .inl (il5 k0_4 k1_4 k2_4 k3_4 k4_4))), (qM4, .inl (cI, 7, .inl (fun k => nI (sn k)))), (qM5, .inl (cI, 56, .inl cor)), (qM6, .inl (cI, 40, .inl (fun k => nI (jn k)))), (qM7, .inl (cI, 24, .inl (fun k => nI (i4 cu se fi pr k)))), (qM8, .inl (cI, 20, .inl xx)), (qM9, .inl (cI, 20, .inl yy)), (qM10, .inl (cI, 7, .inl (fun k => nI (wn k)))), (qM11, .inl (cI, 7, .inl (fun k => nI (hn k)))), (qM12, .inl (cI, 7, .inl (fun k => nI (on k)))), (qM13, .inl (cI, 7, .inl (fun k => nI (be k))))] H := hP
        have hD : va_D A [(qM, .inr (6, [.int (nI told), .ref qM1, .ref qM2, .int (nI pts_4), .ref qM3, .int (nI pcs), .ref qM4, .ref qM5, .int (nI sms), .ref qM6, .int (nI wd), .int (nI ck), .int (nI nc), .ref qM7, .ref qM8, .ref qM9, .ref qM10, .ref qM11, .ref qM12, .ref qM13, .int (nI lt), .int (nI en), .int (nI bl), .int (nI bn)])), (qM1, .inl (cI, 200, .inl (il5 hd bd ms dy vl))), (qM2, .inl (cI, 24, .inl hbt)), (qM3, .inl (cI, 100, .inl (il5 k0_4 k1_4 k2_4 k3_4 k4_4))), (qM4, .inl (cI, 7, .inl (fun k => nI (sn k)))), (qM5, .inl (cI, 56, .inl cor)), (qM6, .inl (cI, 40, .inl (fun k => nI (jn k)))), (qM7, .inl (cI, 24, .inl (fun k => nI (i4 cu se fi pr k)))), (qM8, .inl (cI, 20, .inl xx)), (qM9, .inl (cI, 20, .inl yy)), (qM10, .inl (cI, 7, .inl (fun k => nI (wn k)))), (qM11, .inl (cI, 7, .inl (fun k => nI (hn k)))), (qM12, .inl (cI, 7, .inl (fun k => nI (on k)))), (qM13, .inl (cI, 7, .inl (fun k => nI (be k))))] := hD
        have hw_4 : if pts < 20 then r_4 = nI pts ∧ k0_4 = upd k0 pts 1 ∧ k1_4 = upd k1 pts pq ∧ k2_4 = upd k2 pts a ∧ k3_4 = upd k3 pts b ∧ k4_4 = upd k4 pts 0 ∧ pts_4 = pts + 1 else r_4 = -4 ∧ k0_4 = k0 ∧ k1_4 = k1 ∧ k2_4 = k2 ∧ k3_4 = k3 ∧ k4_4 = k4 ∧ pts_4 = pts := hw_4
        refine lv_goto (tgt := 36) hx hb dX6_off_31 (by decide) ?_
        exact W.iret (v := r_4) hx hb hr (fun t ht hW => ⟨⟨r_4, (k0_4, k1_4, k2_4, k3_4, k4_4, pts_4), rfl, by show ite _ _ _; rw [if_pos ⟨c_1, c_2, c_3⟩]; exact hw_4, by (show va_P G vwCl _ t.heap; rw [ht]; exact hP)⟩, hS.F ht⟩) hS.2.2 dX6_off_36 hlocks
theorem h_X6_by (cI cZ : ClassId) (qM : Nat) (qM1 : Nat) (qM2 : Nat) (qM3 : Nat) (qM4 : Nat) (qM5 : Nat) (qM6 : Nat) (qM7 : Nat) (qM8 : Nat) (qM9 : Nat) (qM10 : Nat) (qM11 : Nat) (qM12 : Nat) (qM13 : Nat) (hd : Nat → Int32) (bd : Nat → Int32) (ms : Nat → Int32) (dy : Nat → Int32) (vl : Nat → Int32) (hbt : Nat → Int32) (k0 : Nat → Int32) (k1 : Nat → Int32) (k2 : Nat → Int32) (k3 : Nat → Int32) (k4 : Nat → Int32) (sn : Nat → Nat) (cor : Nat → Int32) (jn : Nat → Nat) (cu : Nat → Nat) (se : Nat → Nat) (fi : Nat → Nat) (pr : Nat → Nat) (xx : Nat → Int32) (yy : Nat → Int32) (wn : Nat → Nat) (hn : Nat → Nat) (on : Nat → Nat) (be : Nat → Nat) (told : Nat) (pts : Nat) (pcs : Nat) (sms : Nat) (wd : Nat) (ck : Nat) (nc : Nat) (lt : Nat) (en : Nat) (bl : Nat) (bn : Nat) : ∀ u, (((fun u : (Nat → Int32) × (Nat → Int32) × (Nat → Int32) × (Nat → Int32) × (Nat → Int32) × Nat => [(qM, .inr (6, [.int (nI told), .ref qM1, .ref qM2, .int (nI u.2.2.2.2.2), .ref qM3, .int (nI pcs), .ref qM4, .ref qM5, .int (nI sms), .ref qM6, .int (nI wd), .int (nI ck), .int (nI nc), .ref qM7, .ref qM8, .ref qM9, .ref qM10, .ref qM11, .ref qM12, .ref qM13, .int (nI lt), .int (nI en), .int (nI bl), .int (nI bn)])), (qM1, .inl (cI, 200, .inl (il5 hd bd ms dy vl))), (qM2, .inl (cI, 24, .inl hbt)), (qM3, .inl (cI, 100, .inl (il5 u.1 u.2.1 u.2.2.1 u.2.2.2.1 u.2.2.2.2.1))), (qM4, .inl (cI, 7, .inl (fun k => nI (sn k)))), (qM5, .inl (cI, 56, .inl cor)), (qM6, .inl (cI, 40, .inl (fun k => nI (jn k)))), (qM7, .inl (cI, 24, .inl (fun k => nI (i4 cu se fi pr k)))), (qM8, .inl (cI, 20, .inl xx)), (qM9, .inl (cI, 20, .inl yy)), (qM10, .inl (cI, 7, .inl (fun k => nI (wn k)))), (qM11, .inl (cI, 7, .inl (fun k => nI (hn k)))), (qM12, .inl (cI, 7, .inl (fun k => nI (on k)))), (qM13, .inl (cI, 7, .inl (fun k => nI (be k))))]) : ((Nat → Int32) × (Nat → Int32) × (Nat → Int32) × (Nat → Int32) × (Nat → Int32) × Nat) → va_W) u).map Prod.fst = ([(qM, .inr (6, [.int (nI told), .ref qM1, .ref qM2, .int (nI pts), .ref qM3, .int (nI pcs), .ref qM4, .ref qM5, .int (nI sms), .ref qM6, .int (nI wd), .int (nI ck), .int (nI nc), .ref qM7, .ref qM8, .ref qM9, .ref qM10, .ref qM11, .ref qM12, .ref qM13, .int (nI lt), .int (nI en), .int (nI bl), .int (nI bn)])), (qM1, .inl (cI, 200, .inl (il5 hd bd ms dy vl))), (qM2, .inl (cI, 24, .inl hbt)), (qM3, .inl (cI, 100, .inl (il5 k0 k1 k2 k3 k4))), (qM4, .inl (cI, 7, .inl (fun k => nI (sn k)))), (qM5, .inl (cI, 56, .inl cor)), (qM6, .inl (cI, 40, .inl (fun k => nI (jn k)))), (qM7, .inl (cI, 24, .inl (fun k => nI (i4 cu se fi pr k)))), (qM8, .inl (cI, 20, .inl xx)), (qM9, .inl (cI, 20, .inl yy)), (qM10, .inl (cI, 7, .inl (fun k => nI (wn k)))), (qM11, .inl (cI, 7, .inl (fun k => nI (hn k)))), (qM12, .inl (cI, 7, .inl (fun k => nI (on k)))), (qM13, .inl (cI, 7, .inl (fun k => nI (be k))))] : va_W).map Prod.fst := fun _ => rfl
abbrev rm_X6_by : Room := { frames := 2, cells := 0, slots := 0, locals := 43 }
set_option maxHeartbeats 4000000 in
set_option maxRecDepth 100000 in
theorem c_X6_by (l : Launch) (G : va_G) (cI cZ : ClassId) (qM : Nat) (qM1 : Nat) (qM2 : Nat) (qM3 : Nat) (qM4 : Nat) (qM5 : Nat) (qM6 : Nat) (qM7 : Nat) (qM8 : Nat) (qM9 : Nat) (qM10 : Nat) (qM11 : Nat) (qM12 : Nat) (qM13 : Nat) (hd : Nat → Int32) (bd : Nat → Int32) (ms : Nat → Int32) (dy : Nat → Int32) (vl : Nat → Int32) (hbt : Nat → Int32) (k0 : Nat → Int32) (k1 : Nat → Int32) (k2 : Nat → Int32) (k3 : Nat → Int32) (k4 : Nat → Int32) (sn : Nat → Nat) (cor : Nat → Int32) (jn : Nat → Nat) (cu : Nat → Nat) (se : Nat → Nat) (fi : Nat → Nat) (pr : Nat → Nat) (xx : Nat → Int32) (yy : Nat → Int32) (wn : Nat → Nat) (hn : Nat → Nat) (on : Nat → Nat) (be : Nat → Nat) (told : Nat) (pts : Nat) (pcs : Nat) (sms : Nat) (wd : Nat) (ck : Nat) (nc : Nat) (lt : Nat) (en : Nat) (bl : Nat) (bn : Nat) (sz : Nat) (pq : Int32) (measure : Int32) (a : Int32) (b : Int32) (way : Int32) (hpo : pts ≤ 20) : Met l yX6_by wsX6_by rm_X6_by (kx_Pw G cI cZ [(qM, .inr (6, [.int (nI told), .ref qM1, .ref qM2, .int (nI pts), .ref qM3, .int (nI pcs), .ref qM4, .ref qM5, .int (nI sms), .ref qM6, .int (nI wd), .int (nI ck), .int (nI nc), .ref qM7, .ref qM8, .ref qM9, .ref qM10, .ref qM11, .ref qM12, .ref qM13, .int (nI lt), .int (nI en), .int (nI bl), .int (nI bn)])), (qM1, .inl (cI, 200, .inl (il5 hd bd ms dy vl))), (qM2, .inl (cI, 24, .inl hbt)), (qM3, .inl (cI, 100, .inl (il5 k0 k1 k2 k3 k4))), (qM4, .inl (cI, 7, .inl (fun k => nI (sn k)))), (qM5, .inl (cI, 56, .inl cor)), (qM6, .inl (cI, 40, .inl (fun k => nI (jn k)))), (qM7, .inl (cI, 24, .inl (fun k => nI (i4 cu se fi pr k)))), (qM8, .inl (cI, 20, .inl xx)), (qM9, .inl (cI, 20, .inl yy)), (qM10, .inl (cI, 7, .inl (fun k => nI (wn k)))), (qM11, .inl (cI, 7, .inl (fun k => nI (hn k)))), (qM12, .inl (cI, 7, .inl (fun k => nI (on k)))), (qM13, .inl (cI, 7, .inl (fun k => nI (be k))))] sz [.ref qM, .int pq, .int measure, .int a, .int b, .int way]) (va_Qi (fun (r : Int32) (u : (Nat → Int32) × (Nat → Int32) × (Nat → Int32) × (Nat → Int32) × (Nat → Int32) × Nat) => if (0 ≤ pq ∧ pq ≤ nI pts - 1) ∧ (0 ≤ measure ∧ measure ≤ 5) ∧ ((-20) ≤ a ∧ a ≤ 20) ∧ (1 ≤ b ∧ b ≤ 20) ∧ (0 ≤ way ∧ way ≤ 1) then (if pts < 20 then r = nI pts ∧ u.1 = upd k0 pts (if way = 0 then 2 else 3) ∧ u.2.1 = upd k1 pts pq ∧ u.2.2.1 = upd k2 pts measure ∧ u.2.2.2.1 = upd k3 pts a ∧ u.2.2.2.2.1 = upd k4 pts b ∧ u.2.2.2.2.2 = pts + 1 else r = -4 ∧ u.1 = k0 ∧ u.2.1 = k1 ∧ u.2.2.1 = k2 ∧ u.2.2.2.1 = k3 ∧ u.2.2.2.2.1 = k4 ∧ u.2.2.2.2.2 = pts) else (r = -2 ∧ u.1 = k0 ∧ u.2.1 = k1 ∧ u.2.2.1 = k2 ∧ u.2.2.2.1 = k3 ∧ u.2.2.2.2.1 = k4 ∧ u.2.2.2.2.2 = pts)) (fun u t => va_P G vwCl ((fun u : (Nat → Int32) × (Nat → Int32) × (Nat → Int32) × (Nat → Int32) × (Nat → Int32) × Nat => [(qM, .inr (6, [.int (nI told), .ref qM1, .ref qM2, .int (nI u.2.2.2.2.2), .ref qM3, .int (nI pcs), .ref qM4, .ref qM5, .int (nI sms), .ref qM6, .int (nI wd), .int (nI ck), .int (nI nc), .ref qM7, .ref qM8, .ref qM9, .ref qM10, .ref qM11, .ref qM12, .ref qM13, .int (nI lt), .int (nI en), .int (nI bl), .int (nI bn)])), (qM1, .inl (cI, 200, .inl (il5 hd bd ms dy vl))), (qM2, .inl (cI, 24, .inl hbt)), (qM3, .inl (cI, 100, .inl (il5 u.1 u.2.1 u.2.2.1 u.2.2.2.1 u.2.2.2.2.1))), (qM4, .inl (cI, 7, .inl (fun k => nI (sn k)))), (qM5, .inl (cI, 56, .inl cor)), (qM6, .inl (cI, 40, .inl (fun k => nI (jn k)))), (qM7, .inl (cI, 24, .inl (fun k => nI (i4 cu se fi pr k)))), (qM8, .inl (cI, 20, .inl xx)), (qM9, .inl (cI, 20, .inl yy)), (qM10, .inl (cI, 7, .inl (fun k => nI (wn k)))), (qM11, .inl (cI, 7, .inl (fun k => nI (hn k)))), (qM12, .inl (cI, 7, .inl (fun k => nI (on k)))), (qM13, .inl (cI, 7, .inl (fun k => nI (be k))))]) u) t.heap) (va_A [(qM, .inr (6, [.int (nI told), .ref qM1, .ref qM2, .int (nI pts), .ref qM3, .int (nI pcs), .ref qM4, .ref qM5, .int (nI sms), .ref qM6, .int (nI wd), .int (nI ck), .int (nI nc), .ref qM7, .ref qM8, .ref qM9, .ref qM10, .ref qM11, .ref qM12, .ref qM13, .int (nI lt), .int (nI en), .int (nI bl), .int (nI bn)])), (qM1, .inl (cI, 200, .inl (il5 hd bd ms dy vl))), (qM2, .inl (cI, 24, .inl hbt)), (qM3, .inl (cI, 100, .inl (il5 k0 k1 k2 k3 k4))), (qM4, .inl (cI, 7, .inl (fun k => nI (sn k)))), (qM5, .inl (cI, 56, .inl cor)), (qM6, .inl (cI, 40, .inl (fun k => nI (jn k)))), (qM7, .inl (cI, 24, .inl (fun k => nI (i4 cu se fi pr k)))), (qM8, .inl (cI, 20, .inl xx)), (qM9, .inl (cI, 20, .inl yy)), (qM10, .inl (cI, 7, .inl (fun k => nI (wn k)))), (qM11, .inl (cI, 7, .inl (fun k => nI (hn k)))), (qM12, .inl (cI, 7, .inl (fun k => nI (on k)))), (qM13, .inl (cI, 7, .inl (fun k => nI (be k))))] sz)) 0 0 (va_A [(qM, .inr (6, [.int (nI told), .ref qM1, .ref qM2, .int (nI pts), .ref qM3, .int (nI pcs), .ref qM4, .ref qM5, .int (nI sms), .ref qM6, .int (nI wd), .int (nI ck), .int (nI nc), .ref qM7, .ref qM8, .ref qM9, .ref qM10, .ref qM11, .ref qM12, .ref qM13, .int (nI lt), .int (nI en), .int (nI bl), .int (nI bn)])), (qM1, .inl (cI, 200, .inl (il5 hd bd ms dy vl))), (qM2, .inl (cI, 24, .inl hbt)), (qM3, .inl (cI, 100, .inl (il5 k0 k1 k2 k3 k4))), (qM4, .inl (cI, 7, .inl (fun k => nI (sn k)))), (qM5, .inl (cI, 56, .inl cor)), (qM6, .inl (cI, 40, .inl (fun k => nI (jn k)))), (qM7, .inl (cI, 24, .inl (fun k => nI (i4 cu se fi pr k)))), (qM8, .inl (cI, 20, .inl xx)), (qM9, .inl (cI, 20, .inl yy)), (qM10, .inl (cI, 7, .inl (fun k => nI (wn k)))), (qM11, .inl (cI, 7, .inl (fun k => nI (hn k)))), (qM12, .inl (cI, 7, .inl (fun k => nI (on k)))), (qM13, .inl (cI, 7, .inl (fun k => nI (be k))))] sz) := by
  refine Met.ofW (cc := cX6_by) (maxL := 7) (ret := (some .int)) (by decide) rfl ?_
  intro p e s m args below meth c s₁ B hml hv
  obtain ⟨rfl, hsz, hP, hD0, hK⟩ := hv
  have hx := B.exec
  have hb := B.bytes
  have hr := B.returns
  have hts := atoms_spec (ws := wsX6_by) B.pre
  have hown : s.vm.findClass RX6 = some m.cls := findClass_of_methodNamed B.named
  have hlocks := B.notSynchronized
  subst hsz
  have hD := hD0.self (sz := s.heap.size)
  generalize hAe : va_A [(qM, .inr (6, [.int (nI told), .ref qM1, .ref qM2, .int (nI pts), .ref qM3, .int (nI pcs), .ref qM4, .ref qM5, .int (nI sms), .ref qM6, .int (nI wd), .int (nI ck), .int (nI nc), .ref qM7, .ref qM8, .ref qM9, .ref qM10, .ref qM11, .ref qM12, .ref qM13, .int (nI lt), .int (nI en), .int (nI bl), .int (nI bn)])), (qM1, .inl (cI, 200, .inl (il5 hd bd ms dy vl))), (qM2, .inl (cI, 24, .inl hbt)), (qM3, .inl (cI, 100, .inl (il5 k0 k1 k2 k3 k4))), (qM4, .inl (cI, 7, .inl (fun k => nI (sn k)))), (qM5, .inl (cI, 56, .inl cor)), (qM6, .inl (cI, 40, .inl (fun k => nI (jn k)))), (qM7, .inl (cI, 24, .inl (fun k => nI (i4 cu se fi pr k)))), (qM8, .inl (cI, 20, .inl xx)), (qM9, .inl (cI, 20, .inl yy)), (qM10, .inl (cI, 7, .inl (fun k => nI (wn k)))), (qM11, .inl (cI, 7, .inl (fun k => nI (hn k)))), (qM12, .inl (cI, 7, .inl (fun k => nI (on k)))), (qM13, .inl (cI, 7, .inl (fun k => nI (be k))))] s.heap.size = A at hD ⊢
  have hA : ∀ q : Nat, s.heap.size ≤ q → A q := fun q h => by rw [← hAe]; exact Or.inr h
  have hS : va_S A s.heap s.heap [] := va_S.rf
  have hl := lv_entry ([.ref qM, .int pq, .int measure, .int a, .int b, .int way]) (n := 7) (Nat.le_of_ble_eq_true rfl)
  rw [lg_entry_eq]
  generalize (lg_sl ([.ref qM, .int pq, .int measure, .int a, .int b, .int way]) ++ List.replicate (7 - (lg_sl ([.ref qM, .int pq, .int measure, .int a, .int b, .int way])).length) Slot.unset).toArray = ls at hl ⊢
  have hl : lv_has ls 7 [(0, .ref qM), (1, .int pq), (2, .int measure), (3, .int a), (4, .int b), (5, .int way)] := hl
  refine lv_aload_n hx hb dX6_by_0 rfl (lv_at hl 0 rfl) ?_
  refine lv_iload_n hx hb dX6_by_1 rfl (lv_at hl 1 rfl) ?_
  refine kx_ri (va_runV (As := [.int pq]) (rest := []) ⟨hx, hb, hml, hown, hts⟩ (c_X6_isPoint l G cI cZ qM qM1 qM2 qM3 qM4 qM5 qM6 qM7 qM8 qM9 qM10 qM11 qM12 qM13 hd bd ms dy vl hbt k0 k1 k2 k3 k4 sn cor jn cu se fi pr xx yy wn hn on be told pts pcs sms wd ck nc lt en bl bn pq) (cwV 1 hts gX6_by_X6_isPoint rfl rfl rfl (by decide +kernel) ⟨(Nat.le_of_ble_eq_true rfl), (Nat.le_of_ble_eq_true rfl)⟩) (kx_preR hK (kx_sub 0 14 hP rfl) 0 rfl rfl) rfl rfl hl.1 rfl (lv_room (Nat.le_of_ble_eq_true rfl)) dX6_by_2 ⟨Nat.zero_le _, Nat.zero_le _⟩) ?_
  refine kx_ifeqB hx hb (0 ≤ pq ∧ pq ≤ nI pts - 1) (tgt := 51) dX6_by_5 (by decide) (fun c_1 => ?_) (fun c_1 => ?_)
  · skip
    refine lv_iconst (v := 0) hx hb dX6_by_51 (by decide) ?_
    refine lv_istore (lv' := [(6, .int 0), (0, .ref qM), (1, .int pq), (2, .int measure), (3, .int a), (4, .int b), (5, .int way)]) hx hb dX6_by_52 hl (by decide) rfl (fun ls hl => ?_)
    refine lv_iload hx hb dX6_by_54 (lv_at hl 0 rfl) ?_
    refine lv_if_eq (tgt := 81) hx hb dX6_by_56 (by decide) (fun c_2 => ?_) (fun c_2 => ?_)
    · skip
      refine lv_bipush (v := (-2)) hx hb dX6_by_81 (by decide) ?_
      exact W.iret (v := (-2)) hx hb hr (fun t ht hW => ⟨⟨(-2), (k0, k1, k2, k3, k4, pts), rfl, by show ite _ _ _; rw [if_neg (fun h => by obtain ⟨h1, h2, h3, h4, h5⟩ := h; first | exact absurd (by assumption) c_2 | contradiction)]; exact ⟨rfl, rfl, rfl, rfl, rfl, rfl, rfl⟩, by (show va_P G vwCl _ t.heap; rw [ht]; exact hP)⟩, hS.F ht⟩) hS.2.2 dX6_by_83 hlocks
    · exact absurd c_2 (by decide)
  · skip
    refine lv_iload_n hx hb dX6_by_8 rfl (lv_at hl 2 rfl) ?_
    refine kx_ri (va_runS (As := [.int measure]) (rest := []) ⟨hx, hb, hml, hown, hts⟩ (c_X6_isBody l measure) (va_cwS 1 hts gX6_by_X6_isBody rfl rfl rfl (by decide +kernel) ⟨(Nat.le_of_ble_eq_true rfl), (Nat.le_of_ble_eq_true rfl)⟩) kx_preS rfl rfl hl.1 rfl (lv_room (Nat.le_of_ble_eq_true rfl)) dX6_by_9 ⟨Nat.zero_le _, Nat.zero_le _⟩) ?_
    refine kx_ifeqB hx hb (0 ≤ measure ∧ measure ≤ 5) (tgt := 51) dX6_by_12 (by decide) (fun c_3 => ?_) (fun c_3 => ?_)
    · skip
      refine lv_iconst (v := 0) hx hb dX6_by_51 (by decide) ?_
      refine lv_istore (lv' := [(6, .int 0), (0, .ref qM), (1, .int pq), (2, .int measure), (3, .int a), (4, .int b), (5, .int way)]) hx hb dX6_by_52 hl (by decide) rfl (fun ls hl => ?_)
      refine lv_iload hx hb dX6_by_54 (lv_at hl 0 rfl) ?_
      refine lv_if_eq (tgt := 81) hx hb dX6_by_56 (by decide) (fun c_4 => ?_) (fun c_4 => ?_)
      · skip
        refine lv_bipush (v := (-2)) hx hb dX6_by_81 (by decide) ?_
        exact W.iret (v := (-2)) hx hb hr (fun t ht hW => ⟨⟨(-2), (k0, k1, k2, k3, k4, pts), rfl, by show ite _ _ _; rw [if_neg (fun h => by obtain ⟨h1, h2, h3, h4, h5⟩ := h; first | exact absurd (by assumption) c_4 | contradiction)]; exact ⟨rfl, rfl, rfl, rfl, rfl, rfl, rfl⟩, by (show va_P G vwCl _ t.heap; rw [ht]; exact hP)⟩, hS.F ht⟩) hS.2.2 dX6_by_83 hlocks
      · exact absurd c_4 (by decide)
    · skip
      refine lv_iload_n hx hb dX6_by_15 rfl (lv_at hl 3 rfl) ?_
      refine lv_bipush (v := (-20)) hx hb dX6_by_16 (by decide) ?_
      refine lv_bipush (v := 20) hx hb dX6_by_18 (by decide) ?_
      refine kx_ri (va_runS (As := [.int a, .int (-20), .int 20]) (rest := []) ⟨hx, hb, hml, hown, hts⟩ (c_X6_in l a (-20) 20) (va_cwS 3 hts gX6_by_X6_in rfl rfl rfl (by decide +kernel) ⟨(Nat.le_of_ble_eq_true rfl), (Nat.le_of_ble_eq_true rfl)⟩) kx_preS rfl rfl hl.1 rfl (lv_room (Nat.le_of_ble_eq_true rfl)) dX6_by_20 ⟨Nat.zero_le _, Nat.zero_le _⟩) ?_
      refine kx_ifeqB hx hb ((-20) ≤ a ∧ a ≤ 20) (tgt := 51) dX6_by_23 (by decide) (fun c_5 => ?_) (fun c_5 => ?_)
      · skip
        refine lv_iconst (v := 0) hx hb dX6_by_51 (by decide) ?_
        refine lv_istore (lv' := [(6, .int 0), (0, .ref qM), (1, .int pq), (2, .int measure), (3, .int a), (4, .int b), (5, .int way)]) hx hb dX6_by_52 hl (by decide) rfl (fun ls hl => ?_)
        refine lv_iload hx hb dX6_by_54 (lv_at hl 0 rfl) ?_
        refine lv_if_eq (tgt := 81) hx hb dX6_by_56 (by decide) (fun c_6 => ?_) (fun c_6 => ?_)
        · skip
          refine lv_bipush (v := (-2)) hx hb dX6_by_81 (by decide) ?_
          exact W.iret (v := (-2)) hx hb hr (fun t ht hW => ⟨⟨(-2), (k0, k1, k2, k3, k4, pts), rfl, by show ite _ _ _; rw [if_neg (fun h => by obtain ⟨h1, h2, h3, h4, h5⟩ := h; first | exact absurd (by assumption) c_6 | contradiction)]; exact ⟨rfl, rfl, rfl, rfl, rfl, rfl, rfl⟩, by (show va_P G vwCl _ t.heap; rw [ht]; exact hP)⟩, hS.F ht⟩) hS.2.2 dX6_by_83 hlocks
        · exact absurd c_6 (by decide)
      · skip
        refine lv_iload hx hb dX6_by_26 (lv_at hl 4 rfl) ?_
        refine lv_iconst (v := 1) hx hb dX6_by_28 (by decide) ?_
        refine lv_bipush (v := 20) hx hb dX6_by_29 (by decide) ?_
        refine kx_ri (va_runS (As := [.int b, .int 1, .int 20]) (rest := []) ⟨hx, hb, hml, hown, hts⟩ (c_X6_in l b 1 20) (va_cwS 3 hts gX6_by_X6_in rfl rfl rfl (by decide +kernel) ⟨(Nat.le_of_ble_eq_true rfl), (Nat.le_of_ble_eq_true rfl)⟩) kx_preS rfl rfl hl.1 rfl (lv_room (Nat.le_of_ble_eq_true rfl)) dX6_by_31 ⟨Nat.zero_le _, Nat.zero_le _⟩) ?_
        refine kx_ifeqB hx hb (1 ≤ b ∧ b ≤ 20) (tgt := 51) dX6_by_34 (by decide) (fun c_7 => ?_) (fun c_7 => ?_)
        · skip
          refine lv_iconst (v := 0) hx hb dX6_by_51 (by decide) ?_
          refine lv_istore (lv' := [(6, .int 0), (0, .ref qM), (1, .int pq), (2, .int measure), (3, .int a), (4, .int b), (5, .int way)]) hx hb dX6_by_52 hl (by decide) rfl (fun ls hl => ?_)
          refine lv_iload hx hb dX6_by_54 (lv_at hl 0 rfl) ?_
          refine lv_if_eq (tgt := 81) hx hb dX6_by_56 (by decide) (fun c_8 => ?_) (fun c_8 => ?_)
          · skip
            refine lv_bipush (v := (-2)) hx hb dX6_by_81 (by decide) ?_
            exact W.iret (v := (-2)) hx hb hr (fun t ht hW => ⟨⟨(-2), (k0, k1, k2, k3, k4, pts), rfl, by show ite _ _ _; rw [if_neg (fun h => by obtain ⟨h1, h2, h3, h4, h5⟩ := h; first | exact absurd (by assumption) c_8 | contradiction)]; exact ⟨rfl, rfl, rfl, rfl, rfl, rfl, rfl⟩, by (show va_P G vwCl _ t.heap; rw [ht]; exact hP)⟩, hS.F ht⟩) hS.2.2 dX6_by_83 hlocks
          · exact absurd c_8 (by decide)
        · skip
          refine lv_iload hx hb dX6_by_37 (lv_at hl 5 rfl) ?_
          refine lv_iconst (v := 0) hx hb dX6_by_39 (by decide) ?_
          refine lv_iconst (v := 1) hx hb dX6_by_40 (by decide) ?_
          refine kx_ri (va_runS (As := [.int way, .int 0, .int 1]) (rest := []) ⟨hx, hb, hml, hown, hts⟩ (c_X6_in l way 0 1) (va_cwS 3 hts gX6_by_X6_in rfl rfl rfl (by decide +kernel) ⟨(Nat.le_of_ble_eq_true rfl), (Nat.le_of_ble_eq_true rfl)⟩) kx_preS rfl rfl hl.1 rfl (lv_room (Nat.le_of_ble_eq_true rfl)) dX6_by_41 ⟨Nat.zero_le _, Nat.zero_le _⟩) ?_
          refine kx_ifeqB hx hb (0 ≤ way ∧ way ≤ 1) (tgt := 51) dX6_by_44 (by decide) (fun c_9 => ?_) (fun c_9 => ?_)
          · skip
            refine lv_iconst (v := 0) hx hb dX6_by_51 (by decide) ?_
            refine lv_istore (lv' := [(6, .int 0), (0, .ref qM), (1, .int pq), (2, .int measure), (3, .int a), (4, .int b), (5, .int way)]) hx hb dX6_by_52 hl (by decide) rfl (fun ls hl => ?_)
            refine lv_iload hx hb dX6_by_54 (lv_at hl 0 rfl) ?_
            refine lv_if_eq (tgt := 81) hx hb dX6_by_56 (by decide) (fun c_10 => ?_) (fun c_10 => ?_)
            · skip
              refine lv_bipush (v := (-2)) hx hb dX6_by_81 (by decide) ?_
              exact W.iret (v := (-2)) hx hb hr (fun t ht hW => ⟨⟨(-2), (k0, k1, k2, k3, k4, pts), rfl, by show ite _ _ _; rw [if_neg (fun h => by obtain ⟨h1, h2, h3, h4, h5⟩ := h; first | exact absurd (by assumption) c_10 | contradiction)]; exact ⟨rfl, rfl, rfl, rfl, rfl, rfl, rfl⟩, by (show va_P G vwCl _ t.heap; rw [ht]; exact hP)⟩, hS.F ht⟩) hS.2.2 dX6_by_83 hlocks
            · exact absurd c_10 (by decide)
          · skip
            refine lv_iconst (v := 1) hx hb dX6_by_47 (by decide) ?_
            refine lv_goto (tgt := 52) hx hb dX6_by_48 (by decide) ?_
            refine lv_istore (lv' := [(6, .int 1), (0, .ref qM), (1, .int pq), (2, .int measure), (3, .int a), (4, .int b), (5, .int way)]) hx hb dX6_by_52 hl (by decide) rfl (fun ls hl => ?_)
            refine lv_iload hx hb dX6_by_54 (lv_at hl 0 rfl) ?_
            refine lv_if_eq (tgt := 81) hx hb dX6_by_56 (by decide) (fun c_11 => ?_) (fun c_11 => ?_)
            · exact absurd c_11 (by decide)
            · skip
              refine lv_aload_n hx hb dX6_by_59 rfl (lv_at hl 1 rfl) ?_
              refine lv_iload hx hb dX6_by_60 (lv_at hl 6 rfl) ?_
              refine lv_if_ne (tgt := 69) hx hb dX6_by_62 (by decide) (fun c_12 => ?_) (fun c_12 => ?_)
              · skip
                refine lv_iconst (v := 3) hx hb dX6_by_69 (by decide) ?_
                refine lv_iload_n hx hb dX6_by_70 rfl (lv_at hl 2 rfl) ?_
                refine lv_iload_n hx hb dX6_by_71 rfl (lv_at hl 3 rfl) ?_
                refine lv_iload_n hx hb dX6_by_72 rfl (lv_at hl 4 rfl) ?_
                refine lv_iload hx hb dX6_by_73 (lv_at hl 5 rfl) ?_
                refine kx_wi (va_runV (As := [.int 3, .int pq, .int measure, .int a, .int b]) (rest := []) ⟨hx, hb, hml, hown, hts⟩ (c_X6_newPoint l G cI cZ qM qM1 qM2 qM3 qM4 qM5 qM6 qM7 qM8 qM9 qM10 qM11 qM12 qM13 hd bd ms dy vl hbt k0 k1 k2 k3 k4 sn cor jn cu se fi pr xx yy wn hn on be told pts pcs sms wd ck nc lt en bl bn (s.heap).size 3 pq measure a b (by first | assumption | omega)) (cwV 5 hts gX6_by_X6_newPoint rfl rfl rfl (by decide +kernel) ⟨(Nat.le_of_ble_eq_true rfl), (Nat.le_of_ble_eq_true rfl)⟩) (kx_preW hK (kx_sub 0 14 hP rfl) (kx_subD 0 14 hD rfl) 0 rfl rfl) rfl rfl hl.1 rfl (lv_room (Nat.le_of_ble_eq_true rfl)) dX6_by_75 ⟨Nat.zero_le _, Nat.zero_le _⟩) hP hD hS hA 0 14 rfl (h_X6_newPoint cI cZ qM qM1 qM2 qM3 qM4 qM5 qM6 qM7 qM8 qM9 qM10 qM11 qM12 qM13 hd bd ms dy vl hbt k0 k1 k2 k3 k4 sn cor jn cu se fi pr xx yy wn hn on be told pts pcs sms wd ck nc lt en bl bn) (fun r_13 u H locs hw_13 hP hD hS => ?_)
                obtain ⟨k0_13, k1_13, k2_13, k3_13, k4_13, pts_13⟩ := u
                have hP : va_P G vwCl [(qM, .inr (6, [.int (nI told), .ref qM1, .ref qM2, .int (nI pts_13), .ref qM3, .int (nI pcs), .ref qM4, .ref qM5, .int (nI sms), .ref qM6, .int (nI wd), .int (nI ck), .int (nI nc), .ref qM7, .ref qM8, .ref qM9, .ref qM10, .ref qM11, .ref qM12, .ref qM13, .int (nI lt), .int (nI en), .int (nI bl), .int (nI bn)])), (qM1, .inl (cI, 200, .inl (il5 hd bd ms dy vl))), (qM2, .inl (cI, 24, .inl hbt)), (qM3, .inl (cI, 100, .inl (il5 k0_13 k1_13 k2_13 k3_13 k4_13))), (qM4, .inl (cI, 7, .inl (fun k => nI (sn k)))), (qM5, .inl (cI, 56, .inl cor)), (qM6, .inl (cI, 40, .inl (fun k => nI (jn k)))), (qM7, .inl (cI, 24, .inl (fun k => nI (i4 cu se fi pr k)))), (qM8, .inl (cI, 20, .inl xx)), (qM9, .inl (cI, 20, .inl yy)), (qM10, .inl (cI, 7, .inl (fun k => nI (wn k)))), (qM11, .inl (cI, 7, .inl (fun k => nI (hn k)))), (qM12, .inl (cI, 7, .inl (fun k => nI (on k)))), (qM13, .inl (cI, 7, .inl (fun k => nI (be k))))] H := hP
                have hD : va_D A [(qM, .inr (6, [.int (nI told), .ref qM1, .ref qM2, .int (nI pts_13), .ref qM3, .int (nI pcs), .ref qM4, .ref qM5, .int (nI sms), .ref qM6, .int (nI wd), .int (nI ck), .int (nI nc), .ref qM7, .ref qM8, .ref qM9, .ref qM10, .ref qM11, .ref qM12, .ref qM13, .int (nI lt), .int (nI en), .int (nI bl), .int (nI bn)])), (qM1, .inl (cI, 200, .inl (il5 hd bd ms dy vl))), (qM2, .inl (cI, 24, .inl hbt)), (qM3, .inl (cI, 100, .inl (il5 k0_13 k1_13 k2_13 k3_13 k4_13))), (qM4, .inl (cI, 7, .inl (fun k => nI (sn k)))), (qM5, .inl (cI, 56, .inl cor)), (qM6, .inl (cI, 40, .inl (fun k => nI (jn k)))), (qM7, .inl (cI, 24, .inl (fun k => nI (i4 cu se fi pr k)))), (qM8, .inl (cI, 20, .inl xx)), (qM9, .inl (cI, 20, .inl yy)), (qM10, .inl (cI, 7, .inl (fun k => nI (wn k)))), (qM11, .inl (cI, 7, .inl (fun k => nI (hn k)))), (qM12, .inl (cI, 7, .inl (fun k => nI (on k)))), (qM13, .inl (cI, 7, .inl (fun k => nI (be k))))] := hD
                have hw_13 : if pts < 20 then r_13 = nI pts ∧ k0_13 = upd k0 pts 3 ∧ k1_13 = upd k1 pts pq ∧ k2_13 = upd k2 pts measure ∧ k3_13 = upd k3 pts a ∧ k4_13 = upd k4 pts b ∧ pts_13 = pts + 1 else r_13 = -4 ∧ k0_13 = k0 ∧ k1_13 = k1 ∧ k2_13 = k2 ∧ k3_13 = k3 ∧ k4_13 = k4 ∧ pts_13 = pts := hw_13
                refine lv_goto (tgt := 83) hx hb dX6_by_78 (by decide) ?_
                exact W.iret (v := r_13) hx hb hr (fun t ht hW => ⟨⟨r_13, (k0_13, k1_13, k2_13, k3_13, k4_13, pts_13), rfl, by show ite _ _ _; rw [if_pos ⟨c_1, c_3, c_5, c_7, c_9⟩]; simpa [c_12] using hw_13, by (show va_P G vwCl _ t.heap; rw [ht]; exact hP)⟩, hS.F ht⟩) hS.2.2 dX6_by_83 hlocks
              · skip
                refine lv_iconst (v := 2) hx hb dX6_by_65 (by decide) ?_
                refine lv_goto (tgt := 70) hx hb dX6_by_66 (by decide) ?_
                refine lv_iload_n hx hb dX6_by_70 rfl (lv_at hl 2 rfl) ?_
                refine lv_iload_n hx hb dX6_by_71 rfl (lv_at hl 3 rfl) ?_
                refine lv_iload_n hx hb dX6_by_72 rfl (lv_at hl 4 rfl) ?_
                refine lv_iload hx hb dX6_by_73 (lv_at hl 5 rfl) ?_
                refine kx_wi (va_runV (As := [.int 2, .int pq, .int measure, .int a, .int b]) (rest := []) ⟨hx, hb, hml, hown, hts⟩ (c_X6_newPoint l G cI cZ qM qM1 qM2 qM3 qM4 qM5 qM6 qM7 qM8 qM9 qM10 qM11 qM12 qM13 hd bd ms dy vl hbt k0 k1 k2 k3 k4 sn cor jn cu se fi pr xx yy wn hn on be told pts pcs sms wd ck nc lt en bl bn (s.heap).size 2 pq measure a b (by first | assumption | omega)) (cwV 5 hts gX6_by_X6_newPoint rfl rfl rfl (by decide +kernel) ⟨(Nat.le_of_ble_eq_true rfl), (Nat.le_of_ble_eq_true rfl)⟩) (kx_preW hK (kx_sub 0 14 hP rfl) (kx_subD 0 14 hD rfl) 0 rfl rfl) rfl rfl hl.1 rfl (lv_room (Nat.le_of_ble_eq_true rfl)) dX6_by_75 ⟨Nat.zero_le _, Nat.zero_le _⟩) hP hD hS hA 0 14 rfl (h_X6_newPoint cI cZ qM qM1 qM2 qM3 qM4 qM5 qM6 qM7 qM8 qM9 qM10 qM11 qM12 qM13 hd bd ms dy vl hbt k0 k1 k2 k3 k4 sn cor jn cu se fi pr xx yy wn hn on be told pts pcs sms wd ck nc lt en bl bn) (fun r_14 u H locs hw_14 hP hD hS => ?_)
                obtain ⟨k0_14, k1_14, k2_14, k3_14, k4_14, pts_14⟩ := u
                have hP : va_P G vwCl [(qM, .inr (6, [.int (nI told), .ref qM1, .ref qM2, .int (nI pts_14), .ref qM3, .int (nI pcs), .ref qM4, .ref qM5, .int (nI sms), .ref qM6, .int (nI wd), .int (nI ck), .int (nI nc), .ref qM7, .ref qM8, .ref qM9, .ref qM10, .ref qM11, .ref qM12, .ref qM13, .int (nI lt), .int (nI en), .int (nI bl), .int (nI bn)])), (qM1, .inl (cI, 200, .inl (il5 hd bd ms dy vl))), (qM2, .inl (cI, 24, .inl hbt)), (qM3, .inl (cI, 100, .inl (il5 k0_14 k1_14 k2_14 k3_14 k4_14))), (qM4, .inl (cI, 7, .inl (fun k => nI (sn k)))), (qM5, .inl (cI, 56, .inl cor)), (qM6, .inl (cI, 40, .inl (fun k => nI (jn k)))), (qM7, .inl (cI, 24, .inl (fun k => nI (i4 cu se fi pr k)))), (qM8, .inl (cI, 20, .inl xx)), (qM9, .inl (cI, 20, .inl yy)), (qM10, .inl (cI, 7, .inl (fun k => nI (wn k)))), (qM11, .inl (cI, 7, .inl (fun k => nI (hn k)))), (qM12, .inl (cI, 7, .inl (fun k => nI (on k)))), (qM13, .inl (cI, 7, .inl (fun k => nI (be k))))] H := hP
                have hD : va_D A [(qM, .inr (6, [.int (nI told), .ref qM1, .ref qM2, .int (nI pts_14), .ref qM3, .int (nI pcs), .ref qM4, .ref qM5, .int (nI sms), .ref qM6, .int (nI wd), .int (nI ck), .int (nI nc), .ref qM7, .ref qM8, .ref qM9, .ref qM10, .ref qM11, .ref qM12, .ref qM13, .int (nI lt), .int (nI en), .int (nI bl), .int (nI bn)])), (qM1, .inl (cI, 200, .inl (il5 hd bd ms dy vl))), (qM2, .inl (cI, 24, .inl hbt)), (qM3, .inl (cI, 100, .inl (il5 k0_14 k1_14 k2_14 k3_14 k4_14))), (qM4, .inl (cI, 7, .inl (fun k => nI (sn k)))), (qM5, .inl (cI, 56, .inl cor)), (qM6, .inl (cI, 40, .inl (fun k => nI (jn k)))), (qM7, .inl (cI, 24, .inl (fun k => nI (i4 cu se fi pr k)))), (qM8, .inl (cI, 20, .inl xx)), (qM9, .inl (cI, 20, .inl yy)), (qM10, .inl (cI, 7, .inl (fun k => nI (wn k)))), (qM11, .inl (cI, 7, .inl (fun k => nI (hn k)))), (qM12, .inl (cI, 7, .inl (fun k => nI (on k)))), (qM13, .inl (cI, 7, .inl (fun k => nI (be k))))] := hD
                have hw_14 : if pts < 20 then r_14 = nI pts ∧ k0_14 = upd k0 pts 2 ∧ k1_14 = upd k1 pts pq ∧ k2_14 = upd k2 pts measure ∧ k3_14 = upd k3 pts a ∧ k4_14 = upd k4 pts b ∧ pts_14 = pts + 1 else r_14 = -4 ∧ k0_14 = k0 ∧ k1_14 = k1 ∧ k2_14 = k2 ∧ k3_14 = k3 ∧ k4_14 = k4 ∧ pts_14 = pts := hw_14
                refine lv_goto (tgt := 83) hx hb dX6_by_78 (by decide) ?_
                exact W.iret (v := r_14) hx hb hr (fun t ht hW => ⟨⟨r_14, (k0_14, k1_14, k2_14, k3_14, k4_14, pts_14), rfl, by show ite _ _ _; rw [if_pos ⟨c_1, c_3, c_5, c_7, c_9⟩]; simpa [c_12] using hw_14, by (show va_P G vwCl _ t.heap; rw [ht]; exact hP)⟩, hS.F ht⟩) hS.2.2 dX6_by_83 hlocks
theorem h_X6_middle (cI cZ : ClassId) (qM : Nat) (qM1 : Nat) (qM2 : Nat) (qM3 : Nat) (qM4 : Nat) (qM5 : Nat) (qM6 : Nat) (qM7 : Nat) (qM8 : Nat) (qM9 : Nat) (qM10 : Nat) (qM11 : Nat) (qM12 : Nat) (qM13 : Nat) (hd : Nat → Int32) (bd : Nat → Int32) (ms : Nat → Int32) (dy : Nat → Int32) (vl : Nat → Int32) (hbt : Nat → Int32) (k0 : Nat → Int32) (k1 : Nat → Int32) (k2 : Nat → Int32) (k3 : Nat → Int32) (k4 : Nat → Int32) (sn : Nat → Nat) (cor : Nat → Int32) (jn : Nat → Nat) (cu : Nat → Nat) (se : Nat → Nat) (fi : Nat → Nat) (pr : Nat → Nat) (xx : Nat → Int32) (yy : Nat → Int32) (wn : Nat → Nat) (hn : Nat → Nat) (on : Nat → Nat) (be : Nat → Nat) (told : Nat) (pts : Nat) (pcs : Nat) (sms : Nat) (wd : Nat) (ck : Nat) (nc : Nat) (lt : Nat) (en : Nat) (bl : Nat) (bn : Nat) : ∀ u, (((fun u : (Nat → Int32) × (Nat → Int32) × (Nat → Int32) × (Nat → Int32) × (Nat → Int32) × Nat => [(qM, .inr (6, [.int (nI told), .ref qM1, .ref qM2, .int (nI u.2.2.2.2.2), .ref qM3, .int (nI pcs), .ref qM4, .ref qM5, .int (nI sms), .ref qM6, .int (nI wd), .int (nI ck), .int (nI nc), .ref qM7, .ref qM8, .ref qM9, .ref qM10, .ref qM11, .ref qM12, .ref qM13, .int (nI lt), .int (nI en), .int (nI bl), .int (nI bn)])), (qM1, .inl (cI, 200, .inl (il5 hd bd ms dy vl))), (qM2, .inl (cI, 24, .inl hbt)), (qM3, .inl (cI, 100, .inl (il5 u.1 u.2.1 u.2.2.1 u.2.2.2.1 u.2.2.2.2.1))), (qM4, .inl (cI, 7, .inl (fun k => nI (sn k)))), (qM5, .inl (cI, 56, .inl cor)), (qM6, .inl (cI, 40, .inl (fun k => nI (jn k)))), (qM7, .inl (cI, 24, .inl (fun k => nI (i4 cu se fi pr k)))), (qM8, .inl (cI, 20, .inl xx)), (qM9, .inl (cI, 20, .inl yy)), (qM10, .inl (cI, 7, .inl (fun k => nI (wn k)))), (qM11, .inl (cI, 7, .inl (fun k => nI (hn k)))), (qM12, .inl (cI, 7, .inl (fun k => nI (on k)))), (qM13, .inl (cI, 7, .inl (fun k => nI (be k))))]) : ((Nat → Int32) × (Nat → Int32) × (Nat → Int32) × (Nat → Int32) × (Nat → Int32) × Nat) → va_W) u).map Prod.fst = ([(qM, .inr (6, [.int (nI told), .ref qM1, .ref qM2, .int (nI pts), .ref qM3, .int (nI pcs), .ref qM4, .ref qM5, .int (nI sms), .ref qM6, .int (nI wd), .int (nI ck), .int (nI nc), .ref qM7, .ref qM8, .ref qM9, .ref qM10, .ref qM11, .ref qM12, .ref qM13, .int (nI lt), .int (nI en), .int (nI bl), .int (nI bn)])), (qM1, .inl (cI, 200, .inl (il5 hd bd ms dy vl))), (qM2, .inl (cI, 24, .inl hbt)), (qM3, .inl (cI, 100, .inl (il5 k0 k1 k2 k3 k4))), (qM4, .inl (cI, 7, .inl (fun k => nI (sn k)))), (qM5, .inl (cI, 56, .inl cor)), (qM6, .inl (cI, 40, .inl (fun k => nI (jn k)))), (qM7, .inl (cI, 24, .inl (fun k => nI (i4 cu se fi pr k)))), (qM8, .inl (cI, 20, .inl xx)), (qM9, .inl (cI, 20, .inl yy)), (qM10, .inl (cI, 7, .inl (fun k => nI (wn k)))), (qM11, .inl (cI, 7, .inl (fun k => nI (hn k)))), (qM12, .inl (cI, 7, .inl (fun k => nI (on k)))), (qM13, .inl (cI, 7, .inl (fun k => nI (be k))))] : va_W).map Prod.fst := fun _ => rfl
abbrev rm_X6_middle : Room := { frames := 2, cells := 0, slots := 0, locals := 43 }
set_option maxHeartbeats 4000000 in
set_option maxRecDepth 100000 in
theorem c_X6_middle (l : Launch) (G : va_G) (cI cZ : ClassId) (qM : Nat) (qM1 : Nat) (qM2 : Nat) (qM3 : Nat) (qM4 : Nat) (qM5 : Nat) (qM6 : Nat) (qM7 : Nat) (qM8 : Nat) (qM9 : Nat) (qM10 : Nat) (qM11 : Nat) (qM12 : Nat) (qM13 : Nat) (hd : Nat → Int32) (bd : Nat → Int32) (ms : Nat → Int32) (dy : Nat → Int32) (vl : Nat → Int32) (hbt : Nat → Int32) (k0 : Nat → Int32) (k1 : Nat → Int32) (k2 : Nat → Int32) (k3 : Nat → Int32) (k4 : Nat → Int32) (sn : Nat → Nat) (cor : Nat → Int32) (jn : Nat → Nat) (cu : Nat → Nat) (se : Nat → Nat) (fi : Nat → Nat) (pr : Nat → Nat) (xx : Nat → Int32) (yy : Nat → Int32) (wn : Nat → Nat) (hn : Nat → Nat) (on : Nat → Nat) (be : Nat → Nat) (told : Nat) (pts : Nat) (pcs : Nat) (sms : Nat) (wd : Nat) (ck : Nat) (nc : Nat) (lt : Nat) (en : Nat) (bl : Nat) (bn : Nat) (sz : Nat) (pq : Int32) (qq : Int32) (hpo : pts ≤ 20) : Met l yX6_middle wsX6_middle rm_X6_middle (kx_Pw G cI cZ [(qM, .inr (6, [.int (nI told), .ref qM1, .ref qM2, .int (nI pts), .ref qM3, .int (nI pcs), .ref qM4, .ref qM5, .int (nI sms), .ref qM6, .int (nI wd), .int (nI ck), .int (nI nc), .ref qM7, .ref qM8, .ref qM9, .ref qM10, .ref qM11, .ref qM12, .ref qM13, .int (nI lt), .int (nI en), .int (nI bl), .int (nI bn)])), (qM1, .inl (cI, 200, .inl (il5 hd bd ms dy vl))), (qM2, .inl (cI, 24, .inl hbt)), (qM3, .inl (cI, 100, .inl (il5 k0 k1 k2 k3 k4))), (qM4, .inl (cI, 7, .inl (fun k => nI (sn k)))), (qM5, .inl (cI, 56, .inl cor)), (qM6, .inl (cI, 40, .inl (fun k => nI (jn k)))), (qM7, .inl (cI, 24, .inl (fun k => nI (i4 cu se fi pr k)))), (qM8, .inl (cI, 20, .inl xx)), (qM9, .inl (cI, 20, .inl yy)), (qM10, .inl (cI, 7, .inl (fun k => nI (wn k)))), (qM11, .inl (cI, 7, .inl (fun k => nI (hn k)))), (qM12, .inl (cI, 7, .inl (fun k => nI (on k)))), (qM13, .inl (cI, 7, .inl (fun k => nI (be k))))] sz [.ref qM, .int pq, .int qq]) (va_Qi (fun (r : Int32) (u : (Nat → Int32) × (Nat → Int32) × (Nat → Int32) × (Nat → Int32) × (Nat → Int32) × Nat) => if (0 ≤ pq ∧ pq ≤ nI pts - 1) ∧ (0 ≤ qq ∧ qq ≤ nI pts - 1) then (if pts < 20 then r = nI pts ∧ u.1 = upd k0 pts 4 ∧ u.2.1 = upd k1 pts pq ∧ u.2.2.1 = upd k2 pts qq ∧ u.2.2.2.1 = upd k3 pts 0 ∧ u.2.2.2.2.1 = upd k4 pts 0 ∧ u.2.2.2.2.2 = pts + 1 else r = -4 ∧ u.1 = k0 ∧ u.2.1 = k1 ∧ u.2.2.1 = k2 ∧ u.2.2.2.1 = k3 ∧ u.2.2.2.2.1 = k4 ∧ u.2.2.2.2.2 = pts) else (r = -2 ∧ u.1 = k0 ∧ u.2.1 = k1 ∧ u.2.2.1 = k2 ∧ u.2.2.2.1 = k3 ∧ u.2.2.2.2.1 = k4 ∧ u.2.2.2.2.2 = pts)) (fun u t => va_P G vwCl ((fun u : (Nat → Int32) × (Nat → Int32) × (Nat → Int32) × (Nat → Int32) × (Nat → Int32) × Nat => [(qM, .inr (6, [.int (nI told), .ref qM1, .ref qM2, .int (nI u.2.2.2.2.2), .ref qM3, .int (nI pcs), .ref qM4, .ref qM5, .int (nI sms), .ref qM6, .int (nI wd), .int (nI ck), .int (nI nc), .ref qM7, .ref qM8, .ref qM9, .ref qM10, .ref qM11, .ref qM12, .ref qM13, .int (nI lt), .int (nI en), .int (nI bl), .int (nI bn)])), (qM1, .inl (cI, 200, .inl (il5 hd bd ms dy vl))), (qM2, .inl (cI, 24, .inl hbt)), (qM3, .inl (cI, 100, .inl (il5 u.1 u.2.1 u.2.2.1 u.2.2.2.1 u.2.2.2.2.1))), (qM4, .inl (cI, 7, .inl (fun k => nI (sn k)))), (qM5, .inl (cI, 56, .inl cor)), (qM6, .inl (cI, 40, .inl (fun k => nI (jn k)))), (qM7, .inl (cI, 24, .inl (fun k => nI (i4 cu se fi pr k)))), (qM8, .inl (cI, 20, .inl xx)), (qM9, .inl (cI, 20, .inl yy)), (qM10, .inl (cI, 7, .inl (fun k => nI (wn k)))), (qM11, .inl (cI, 7, .inl (fun k => nI (hn k)))), (qM12, .inl (cI, 7, .inl (fun k => nI (on k)))), (qM13, .inl (cI, 7, .inl (fun k => nI (be k))))]) u) t.heap) (va_A [(qM, .inr (6, [.int (nI told), .ref qM1, .ref qM2, .int (nI pts), .ref qM3, .int (nI pcs), .ref qM4, .ref qM5, .int (nI sms), .ref qM6, .int (nI wd), .int (nI ck), .int (nI nc), .ref qM7, .ref qM8, .ref qM9, .ref qM10, .ref qM11, .ref qM12, .ref qM13, .int (nI lt), .int (nI en), .int (nI bl), .int (nI bn)])), (qM1, .inl (cI, 200, .inl (il5 hd bd ms dy vl))), (qM2, .inl (cI, 24, .inl hbt)), (qM3, .inl (cI, 100, .inl (il5 k0 k1 k2 k3 k4))), (qM4, .inl (cI, 7, .inl (fun k => nI (sn k)))), (qM5, .inl (cI, 56, .inl cor)), (qM6, .inl (cI, 40, .inl (fun k => nI (jn k)))), (qM7, .inl (cI, 24, .inl (fun k => nI (i4 cu se fi pr k)))), (qM8, .inl (cI, 20, .inl xx)), (qM9, .inl (cI, 20, .inl yy)), (qM10, .inl (cI, 7, .inl (fun k => nI (wn k)))), (qM11, .inl (cI, 7, .inl (fun k => nI (hn k)))), (qM12, .inl (cI, 7, .inl (fun k => nI (on k)))), (qM13, .inl (cI, 7, .inl (fun k => nI (be k))))] sz)) 0 0 (va_A [(qM, .inr (6, [.int (nI told), .ref qM1, .ref qM2, .int (nI pts), .ref qM3, .int (nI pcs), .ref qM4, .ref qM5, .int (nI sms), .ref qM6, .int (nI wd), .int (nI ck), .int (nI nc), .ref qM7, .ref qM8, .ref qM9, .ref qM10, .ref qM11, .ref qM12, .ref qM13, .int (nI lt), .int (nI en), .int (nI bl), .int (nI bn)])), (qM1, .inl (cI, 200, .inl (il5 hd bd ms dy vl))), (qM2, .inl (cI, 24, .inl hbt)), (qM3, .inl (cI, 100, .inl (il5 k0 k1 k2 k3 k4))), (qM4, .inl (cI, 7, .inl (fun k => nI (sn k)))), (qM5, .inl (cI, 56, .inl cor)), (qM6, .inl (cI, 40, .inl (fun k => nI (jn k)))), (qM7, .inl (cI, 24, .inl (fun k => nI (i4 cu se fi pr k)))), (qM8, .inl (cI, 20, .inl xx)), (qM9, .inl (cI, 20, .inl yy)), (qM10, .inl (cI, 7, .inl (fun k => nI (wn k)))), (qM11, .inl (cI, 7, .inl (fun k => nI (hn k)))), (qM12, .inl (cI, 7, .inl (fun k => nI (on k)))), (qM13, .inl (cI, 7, .inl (fun k => nI (be k))))] sz) := by
  refine Met.ofW (cc := cX6_middle) (maxL := 3) (ret := (some .int)) (by decide) rfl ?_
  intro p e s m args below meth c s₁ B hml hv
  obtain ⟨rfl, hsz, hP, hD0, hK⟩ := hv
  have hx := B.exec
  have hb := B.bytes
  have hr := B.returns
  have hts := atoms_spec (ws := wsX6_middle) B.pre
  have hown : s.vm.findClass RX6 = some m.cls := findClass_of_methodNamed B.named
  have hlocks := B.notSynchronized
  subst hsz
  have hD := hD0.self (sz := s.heap.size)
  generalize hAe : va_A [(qM, .inr (6, [.int (nI told), .ref qM1, .ref qM2, .int (nI pts), .ref qM3, .int (nI pcs), .ref qM4, .ref qM5, .int (nI sms), .ref qM6, .int (nI wd), .int (nI ck), .int (nI nc), .ref qM7, .ref qM8, .ref qM9, .ref qM10, .ref qM11, .ref qM12, .ref qM13, .int (nI lt), .int (nI en), .int (nI bl), .int (nI bn)])), (qM1, .inl (cI, 200, .inl (il5 hd bd ms dy vl))), (qM2, .inl (cI, 24, .inl hbt)), (qM3, .inl (cI, 100, .inl (il5 k0 k1 k2 k3 k4))), (qM4, .inl (cI, 7, .inl (fun k => nI (sn k)))), (qM5, .inl (cI, 56, .inl cor)), (qM6, .inl (cI, 40, .inl (fun k => nI (jn k)))), (qM7, .inl (cI, 24, .inl (fun k => nI (i4 cu se fi pr k)))), (qM8, .inl (cI, 20, .inl xx)), (qM9, .inl (cI, 20, .inl yy)), (qM10, .inl (cI, 7, .inl (fun k => nI (wn k)))), (qM11, .inl (cI, 7, .inl (fun k => nI (hn k)))), (qM12, .inl (cI, 7, .inl (fun k => nI (on k)))), (qM13, .inl (cI, 7, .inl (fun k => nI (be k))))] s.heap.size = A at hD ⊢
  have hA : ∀ q : Nat, s.heap.size ≤ q → A q := fun q h => by rw [← hAe]; exact Or.inr h
  have hS : va_S A s.heap s.heap [] := va_S.rf
  have hl := lv_entry ([.ref qM, .int pq, .int qq]) (n := 3) (Nat.le_of_ble_eq_true rfl)
  rw [lg_entry_eq]
  generalize (lg_sl ([.ref qM, .int pq, .int qq]) ++ List.replicate (3 - (lg_sl ([.ref qM, .int pq, .int qq])).length) Slot.unset).toArray = ls at hl ⊢
  have hl : lv_has ls 3 [(0, .ref qM), (1, .int pq), (2, .int qq)] := hl
  refine lv_aload_n hx hb dX6_middle_0 rfl (lv_at hl 0 rfl) ?_
  refine lv_iload_n hx hb dX6_middle_1 rfl (lv_at hl 1 rfl) ?_
  refine kx_ri (va_runV (As := [.int pq]) (rest := []) ⟨hx, hb, hml, hown, hts⟩ (c_X6_isPoint l G cI cZ qM qM1 qM2 qM3 qM4 qM5 qM6 qM7 qM8 qM9 qM10 qM11 qM12 qM13 hd bd ms dy vl hbt k0 k1 k2 k3 k4 sn cor jn cu se fi pr xx yy wn hn on be told pts pcs sms wd ck nc lt en bl bn pq) (cwV 1 hts gX6_middle_X6_isPoint rfl rfl rfl (by decide +kernel) ⟨(Nat.le_of_ble_eq_true rfl), (Nat.le_of_ble_eq_true rfl)⟩) (kx_preR hK (kx_sub 0 14 hP rfl) 0 rfl rfl) rfl rfl hl.1 rfl (lv_room (Nat.le_of_ble_eq_true rfl)) dX6_middle_2 ⟨Nat.zero_le _, Nat.zero_le _⟩) ?_
  refine kx_ifeqB hx hb (0 ≤ pq ∧ pq ≤ nI pts - 1) (tgt := 28) dX6_middle_5 (by decide) (fun c_1 => ?_) (fun c_1 => ?_)
  · skip
    refine lv_bipush (v := (-2)) hx hb dX6_middle_28 (by decide) ?_
    exact W.iret (v := (-2)) hx hb hr (fun t ht hW => ⟨⟨(-2), (k0, k1, k2, k3, k4, pts), rfl, by show ite _ _ _; rw [if_neg (fun h => by obtain ⟨h1, h2⟩ := h; first | exact absurd (by assumption) c_1 | contradiction)]; exact ⟨rfl, rfl, rfl, rfl, rfl, rfl, rfl⟩, by (show va_P G vwCl _ t.heap; rw [ht]; exact hP)⟩, hS.F ht⟩) hS.2.2 dX6_middle_30 hlocks
  · skip
    refine lv_aload_n hx hb dX6_middle_8 rfl (lv_at hl 0 rfl) ?_
    refine lv_iload_n hx hb dX6_middle_9 rfl (lv_at hl 2 rfl) ?_
    refine kx_ri (va_runV (As := [.int qq]) (rest := []) ⟨hx, hb, hml, hown, hts⟩ (c_X6_isPoint l G cI cZ qM qM1 qM2 qM3 qM4 qM5 qM6 qM7 qM8 qM9 qM10 qM11 qM12 qM13 hd bd ms dy vl hbt k0 k1 k2 k3 k4 sn cor jn cu se fi pr xx yy wn hn on be told pts pcs sms wd ck nc lt en bl bn qq) (cwV 1 hts gX6_middle_X6_isPoint rfl rfl rfl (by decide +kernel) ⟨(Nat.le_of_ble_eq_true rfl), (Nat.le_of_ble_eq_true rfl)⟩) (kx_preR hK (kx_sub 0 14 hP rfl) 0 rfl rfl) rfl rfl hl.1 rfl (lv_room (Nat.le_of_ble_eq_true rfl)) dX6_middle_10 ⟨Nat.zero_le _, Nat.zero_le _⟩) ?_
    refine kx_ifeqB hx hb (0 ≤ qq ∧ qq ≤ nI pts - 1) (tgt := 28) dX6_middle_13 (by decide) (fun c_2 => ?_) (fun c_2 => ?_)
    · skip
      refine lv_bipush (v := (-2)) hx hb dX6_middle_28 (by decide) ?_
      exact W.iret (v := (-2)) hx hb hr (fun t ht hW => ⟨⟨(-2), (k0, k1, k2, k3, k4, pts), rfl, by show ite _ _ _; rw [if_neg (fun h => by obtain ⟨h1, h2⟩ := h; first | exact absurd (by assumption) c_2 | contradiction)]; exact ⟨rfl, rfl, rfl, rfl, rfl, rfl, rfl⟩, by (show va_P G vwCl _ t.heap; rw [ht]; exact hP)⟩, hS.F ht⟩) hS.2.2 dX6_middle_30 hlocks
    · skip
      refine lv_aload_n hx hb dX6_middle_16 rfl (lv_at hl 0 rfl) ?_
      refine lv_iconst (v := 4) hx hb dX6_middle_17 (by decide) ?_
      refine lv_iload_n hx hb dX6_middle_18 rfl (lv_at hl 1 rfl) ?_
      refine lv_iload_n hx hb dX6_middle_19 rfl (lv_at hl 2 rfl) ?_
      refine lv_iconst (v := 0) hx hb dX6_middle_20 (by decide) ?_
      refine lv_iconst (v := 0) hx hb dX6_middle_21 (by decide) ?_
      refine kx_wi (va_runV (As := [.int 4, .int pq, .int qq, .int 0, .int 0]) (rest := []) ⟨hx, hb, hml, hown, hts⟩ (c_X6_newPoint l G cI cZ qM qM1 qM2 qM3 qM4 qM5 qM6 qM7 qM8 qM9 qM10 qM11 qM12 qM13 hd bd ms dy vl hbt k0 k1 k2 k3 k4 sn cor jn cu se fi pr xx yy wn hn on be told pts pcs sms wd ck nc lt en bl bn (s.heap).size 4 pq qq 0 0 (by first | assumption | omega)) (cwV 5 hts gX6_middle_X6_newPoint rfl rfl rfl (by decide +kernel) ⟨(Nat.le_of_ble_eq_true rfl), (Nat.le_of_ble_eq_true rfl)⟩) (kx_preW hK (kx_sub 0 14 hP rfl) (kx_subD 0 14 hD rfl) 0 rfl rfl) rfl rfl hl.1 rfl (lv_room (Nat.le_of_ble_eq_true rfl)) dX6_middle_22 ⟨Nat.zero_le _, Nat.zero_le _⟩) hP hD hS hA 0 14 rfl (h_X6_newPoint cI cZ qM qM1 qM2 qM3 qM4 qM5 qM6 qM7 qM8 qM9 qM10 qM11 qM12 qM13 hd bd ms dy vl hbt k0 k1 k2 k3 k4 sn cor jn cu se fi pr xx yy wn hn on be told pts pcs sms wd ck nc lt en bl bn) (fun r_3 u H locs hw_3 hP hD hS => ?_)
      obtain ⟨k0_3, k1_3, k2_3, k3_3, k4_3, pts_3⟩ := u
      have hP : va_P G vwCl [(qM, .inr (6, [.int (nI told), .ref qM1, .ref qM2, .int (nI pts_3), .ref qM3, .int (nI pcs), .ref qM4, .ref qM5, .int (nI sms), .ref qM6, .int (nI wd), .int (nI ck), .int (nI nc), .ref qM7, .ref qM8, .ref qM9, .ref qM10, .ref qM11, .ref qM12, .ref qM13, .int (nI lt), .int (nI en), .int (nI bl), .int (nI bn)])), (qM1, .inl (cI, 200, .inl (il5 hd bd ms dy vl))), (qM2, .inl (cI, 24, .inl hbt)), (qM3, .inl (cI, 100, .inl (il5 k0_3 k1_3 k2_3 k3_3 k4_3))), (qM4, .inl (cI, 7, .inl (fun k => nI (sn k)))), (qM5, .inl (cI, 56, .inl cor)), (qM6, .inl (cI, 40, .inl (fun k => nI (jn k)))), (qM7, .inl (cI, 24, .inl (fun k => nI (i4 cu se fi pr k)))), (qM8, .inl (cI, 20, .inl xx)), (qM9, .inl (cI, 20, .inl yy)), (qM10, .inl (cI, 7, .inl (fun k => nI (wn k)))), (qM11, .inl (cI, 7, .inl (fun k => nI (hn k)))), (qM12, .inl (cI, 7, .inl (fun k => nI (on k)))), (qM13, .inl (cI, 7, .inl (fun k => nI (be k))))] H := hP
      have hD : va_D A [(qM, .inr (6, [.int (nI told), .ref qM1, .ref qM2, .int (nI pts_3), .ref qM3, .int (nI pcs), .ref qM4, .ref qM5, .int (nI sms), .ref qM6, .int (nI wd), .int (nI ck), .int (nI nc), .ref qM7, .ref qM8, .ref qM9, .ref qM10, .ref qM11, .ref qM12, .ref qM13, .int (nI lt), .int (nI en), .int (nI bl), .int (nI bn)])), (qM1, .inl (cI, 200, .inl (il5 hd bd ms dy vl))), (qM2, .inl (cI, 24, .inl hbt)), (qM3, .inl (cI, 100, .inl (il5 k0_3 k1_3 k2_3 k3_3 k4_3))), (qM4, .inl (cI, 7, .inl (fun k => nI (sn k)))), (qM5, .inl (cI, 56, .inl cor)), (qM6, .inl (cI, 40, .inl (fun k => nI (jn k)))), (qM7, .inl (cI, 24, .inl (fun k => nI (i4 cu se fi pr k)))), (qM8, .inl (cI, 20, .inl xx)), (qM9, .inl (cI, 20, .inl yy)), (qM10, .inl (cI, 7, .inl (fun k => nI (wn k)))), (qM11, .inl (cI, 7, .inl (fun k => nI (hn k)))), (qM12, .inl (cI, 7, .inl (fun k => nI (on k)))), (qM13, .inl (cI, 7, .inl (fun k => nI (be k))))] := hD
      have hw_3 : if pts < 20 then r_3 = nI pts ∧ k0_3 = upd k0 pts 4 ∧ k1_3 = upd k1 pts pq ∧ k2_3 = upd k2 pts qq ∧ k3_3 = upd k3 pts 0 ∧ k4_3 = upd k4 pts 0 ∧ pts_3 = pts + 1 else r_3 = -4 ∧ k0_3 = k0 ∧ k1_3 = k1 ∧ k2_3 = k2 ∧ k3_3 = k3 ∧ k4_3 = k4 ∧ pts_3 = pts := hw_3
      refine lv_goto (tgt := 30) hx hb dX6_middle_25 (by decide) ?_
      exact W.iret (v := r_3) hx hb hr (fun t ht hW => ⟨⟨r_3, (k0_3, k1_3, k2_3, k3_3, k4_3, pts_3), rfl, by show ite _ _ _; rw [if_pos ⟨c_1, c_2⟩]; exact hw_3, by (show va_P G vwCl _ t.heap; rw [ht]; exact hP)⟩, hS.F ht⟩) hS.2.2 dX6_middle_30 hlocks
