/-! the search for the least end, and for the least late -/
def kIt {σ : Type} (f : Nat → σ → σ) : Nat → σ → σ
  | 0, s => s
  | n + 1, s => f n (kIt f n s)
def kNC (ck e : Nat) : Nat := (e + ck - 1) / ck * ck
abbrev kS3 : Type := (Nat → Int32) × (Nat → Int32) × Nat
def kLN (wn hn : Nat → Nat) (np wd ck : Nat) : Nat → Nat → Nat → Nat → Nat → (Nat → Int32) → kS3 → kS3
  | 0, _, tp, _, tl, _, s => if s.2.2 ≤ tp + tl then s else (s.1, va_cpy s.1 s.2.1 0 0 np, tp + tl)
  | rem + 1, dp, tp, rt, tl, zz, s => if s.2.2 ≤ tp + tl then s else kIt (fun i s => if zz i = 0 then (if rt + wn i ≤ wd then kLN wn hn np wd ck rem (dp + 1) tp (rt + wn i) (max tl (hn i)) (upd zz i 1) (upd s.1 dp (nI i), s.2.1, s.2.2) else kLN wn hn np wd ck rem (dp + 1) (kNC ck (tp + tl)) (wn i) (hn i) (upd zz i 1) (upd s.1 dp (nI i), s.2.1, s.2.2)) else s) np s
def kLF (wn hn : Nat → Nat) (np wd ck rem dp tp rt tl : Nat) (zz : Nat → Int32) (i : Nat) (s : kS3) : kS3 := if zz i = 0 then (if rt + wn i ≤ wd then kLN wn hn np wd ck rem (dp + 1) tp (rt + wn i) (max tl (hn i)) (upd zz i 1) (upd s.1 dp (nI i), s.2.1, s.2.2) else kLN wn hn np wd ck rem (dp + 1) (kNC ck (tp + tl)) (wn i) (hn i) (upd zz i 1) (upd s.1 dp (nI i), s.2.1, s.2.2)) else s
theorem kLN_succ (wn hn : Nat → Nat) (np wd ck rem dp tp rt tl : Nat) (zz : Nat → Int32) (s : kS3) : kLN wn hn np wd ck (rem + 1) dp tp rt tl zz s = if s.2.2 ≤ tp + tl then s else kIt (kLF wn hn np wd ck rem dp tp rt tl zz) np s := rfl
theorem kIt_le {f : Nat → kS3 → kS3} (hf : ∀ i s, (f i s).2.2 ≤ s.2.2) : ∀ n s, (kIt f n s).2.2 ≤ s.2.2
  | 0, s => Nat.le_refl _
  | n + 1, s => Nat.le_trans (hf n _) (kIt_le hf n s)
theorem kLN_le (wn hn : Nat → Nat) (np wd ck : Nat) : ∀ rem dp tp rt tl zz s, (kLN wn hn np wd ck rem dp tp rt tl zz s).2.2 ≤ s.2.2 := by
  intro rem
  induction rem with
  | zero =>
    intro dp tp rt tl zz s
    show (if s.2.2 ≤ tp + tl then s else (s.1, va_cpy s.1 s.2.1 0 0 np, tp + tl)).2.2 ≤ s.2.2
    split
    · exact Nat.le_refl _
    · show tp + tl ≤ s.2.2
      omega
  | succ rem ih =>
    intro dp tp rt tl zz s
    rw [kLN_succ]
    split
    · exact Nat.le_refl _
    · refine kIt_le (fun i s => ?_) np s
      unfold kLF
      split
      · split
        · exact ih _ _ _ _ _ _
        · exact ih _ _ _ _ _ _
      · exact Nat.le_refl _
theorem kLF_le (wn hn : Nat → Nat) (np wd ck rem dp tp rt tl : Nat) (zz : Nat → Int32) (i : Nat) (s : kS3) : (kLF wn hn np wd ck rem dp tp rt tl zz i s).2.2 ≤ s.2.2 := by
  unfold kLF
  split
  · split
    · exact kLN_le wn hn np wd ck _ _ _ _ _ _ _
    · exact kLN_le wn hn np wd ck _ _ _ _ _ _ _
  · exact Nat.le_refl _
theorem kNC_le {ck e : Nat} (h : 1 ≤ ck) : kNC ck e < e + ck := by
  unfold kNC
  have := Nat.div_mul_le_self (e + ck - 1) ck
  omega
theorem kNC_ge {ck e : Nat} (h : 1 ≤ ck) : e ≤ kNC ck e := by
  unfold kNC
  have h1 := Nat.div_add_mod (e + ck - 1) ck
  have h2 := Nat.mod_lt (e + ck - 1) (show ck > 0 by omega)
  rw [Nat.mul_comm] at h1
  omega
theorem kx_uu0 {z : Nat → Int32} {i : Nat} (h : z i = 0) : z = upd (upd z i 1) i 0 := by
  funext j
  unfold upd
  by_cases hj : j = i
  · subst hj; simp [h]
  · simp [hj]
abbrev kS4 : Type := (Nat → Int32) × (Nat → Int32) × Nat × Nat
def kMN (cu se fi pr : Nat → Nat) (np : Nat) : Nat → Nat → Nat → Nat → Nat → Nat → (Nat → Int32) → kS4 → kS4
  | 0, _, _, _, fn, la, _, s => if s.2.2.1 < la ∨ (la = s.2.2.1 ∧ s.2.2.2 ≤ fn) then s else (s.1, va_cpy s.1 s.2.1 0 0 np, la, fn)
  | rem + 1, dp, ct, sw, fn, la, zz, s => if s.2.2.1 < la ∨ (la = s.2.2.1 ∧ s.2.2.2 ≤ fn) then s else kIt (fun i s => if zz i = 0 then kMN cu se fi pr np rem (dp + 1) (ct + cu i) (max (ct + cu i) sw + se i) (max (max (ct + cu i) sw + se i) fn + fi i) (la + (max (max (ct + cu i) sw + se i) fn + fi i - pr i)) (upd zz i 1) (upd s.1 dp (nI i), s.2.1, s.2.2) else s) np s
def kMF (cu se fi pr : Nat → Nat) (np rem dp ct sw fn la : Nat) (zz : Nat → Int32) (i : Nat) (s : kS4) : kS4 := if zz i = 0 then kMN cu se fi pr np rem (dp + 1) (ct + cu i) (max (ct + cu i) sw + se i) (max (max (ct + cu i) sw + se i) fn + fi i) (la + (max (max (ct + cu i) sw + se i) fn + fi i - pr i)) (upd zz i 1) (upd s.1 dp (nI i), s.2.1, s.2.2) else s
theorem kMN_succ (cu se fi pr : Nat → Nat) (np rem dp ct sw fn la : Nat) (zz : Nat → Int32) (s : kS4) : kMN cu se fi pr np (rem + 1) dp ct sw fn la zz s = if s.2.2.1 < la ∨ (la = s.2.2.1 ∧ s.2.2.2 ≤ fn) then s else kIt (kMF cu se fi pr np rem dp ct sw fn la zz) np s := rfl
/-- the two bounds hold: each least is at most 2000000000 -/
def kOk4 (s : kS4) : Prop := s.2.2.1 ≤ 2000000000 ∧ s.2.2.2 ≤ 2000000000
theorem kIt_ok {f : Nat → kS4 → kS4} {n : Nat} (hf : ∀ i s, i < n → kOk4 s → kOk4 (f i s)) : ∀ m s, m ≤ n → kOk4 s → kOk4 (kIt f m s)
  | 0, s, _, h => h
  | m + 1, s, hm, h => hf m _ (by omega) (kIt_ok hf m s (by omega) h)
theorem kx_maxN {a b : Nat} (ha : a < 2 ^ 31) (hb : b < 2 ^ 31) : (if nI a < nI b then nI b else nI a) = nI (max a b) := by
  by_cases h : a < b
  · rw [if_pos ((nI_ltI ha hb).mpr h), Nat.max_eq_right (by omega)]
  · rw [if_neg (fun q => h ((nI_ltI ha hb).mp q)), Nat.max_eq_left (by omega)]
theorem kx_max0 {a b : Nat} (ha : a < 2 ^ 30) (hb : b < 2 ^ 30) : (if nI a - nI b < 0 then 0 else nI a - nI b) = nI (a - b) := by
  by_cases h : a < b
  · rw [if_pos (pk_sneg hb h), show a - b = 0 by omega]; rfl
  · rw [pk_sub (by omega), if_neg (nI_pos (by omega))]
section KXC
variable {p : Program} {l : Launch} {e : Env} {R : Room} {s : State} {m : MethodId} {args : Array Value} {below : List Frame} {meth : Method} {c : Code} {H : Heap} {locs : List Loc} {cells slots : Nat} {Q : State → Prop}
variable {pc : Nat} {ls : Array Slot} {rest : List Value}
theorem kx_top {x y : Int32} (h : x = y) (k : W p l e R s m args below meth c H locs cells slots Q (F0 m pc ls (.int y :: rest))) : W p l e R s m args below meth c H locs cells slots Q (F0 m pc ls (.int x :: rest)) := by rw [h]; exact k
end KXC
theorem kx_divN {a b : Nat} (ha : a < 2 ^ 31) (h0 : 0 < b) (hb : b < 2 ^ 31) : kdiv (nI a) (nI b) = nI (a / b) := by
  unfold kdiv
  rw [if_neg (nI_ne0 h0 hb), pk_div ha h0 hb]
theorem kx_tn (x : Int32) : x.toNatClampNeg < 2 ^ 31 := by
  have := x.toInt_lt
  show x.toInt.toNat < 2 ^ 31
  omega
theorem kx_tnI {x : Int32} (h : 0 ≤ x) : nI x.toNatClampNeg = x := by
  obtain ⟨j, hj, rfl⟩ := nI_of (Int32.not_lt.mpr h)
  rw [nI_clamp hj]
theorem kRoom_1 (pl cor : Nat → Int32) (sn : Nat → Nat) (k : Nat) : 1 ≤ kRoom pl cor sn k := by
  unfold kRoom
  split
  · exact Int32.le_refl _
  · rename_i h; exact Int32.not_lt.mp h
theorem kRoom_0 (pl cor : Nat → Int32) (sn : Nat → Nat) (k : Nat) : 0 ≤ kRoom pl cor sn k := Int32.le_trans (by decide) (kRoom_1 pl cor sn k)
def kWn (pl cor : Nat → Int32) (sn wn : Nat → Nat) (i : Nat) : Nat → Nat := fun k => if k < i then (kRoom pl cor sn k).toNatClampNeg else wn k
theorem kWn_0 (pl cor : Nat → Int32) (sn wn : Nat → Nat) : (fun k => nI (kWn pl cor sn wn 0 k)) = fun k => nI (wn k) := by
  funext k
  simp [kWn]
theorem kWn_s (pl cor : Nat → Int32) (sn wn : Nat → Nat) (i : Nat) : (fun k => nI (kWn pl cor sn wn (i + 1) k)) = upd (fun k => nI (kWn pl cor sn wn i k)) i (kRoom pl cor sn i) := by
  funext k
  simp only [upd, kWn]
  by_cases hk : k = i
  · subst hk
    rw [if_pos (by omega), if_pos rfl, kx_tnI (kRoom_0 pl cor sn k)]
  · rw [if_neg hk]
    by_cases h2 : k < i
    · rw [if_pos (by omega), if_pos h2]
    · rw [if_neg (by omega), if_neg h2]
theorem kWn_r (pl cor : Nat → Int32) (sn wn : Nat → Nat) (i : Nat) : upd (fun k => nI (kWn pl cor sn wn i k)) i (kRoom pl cor sn i) i = nI (kRoom pl cor sn i).toNatClampNeg := by
  rw [pk_us, kx_tnI (kRoom_0 pl cor sn i)]
theorem kWn_lt (pl cor : Nat → Int32) (sn wn : Nat → Nat) {n k : Nat} (h : k < n) : kWn pl cor sn wn n k = (kRoom pl cor sn k).toNatClampNeg := if_pos h
theorem kWn_f {pl cor : Nat → Int32} {sn : Nat → Nat} {i wd : Nat} (hf : ∀ k, k < i → (kRoom pl cor sn k).toNatClampNeg ≤ wd) (h : (kRoom pl cor sn i).toNatClampNeg ≤ wd) : ∀ k, k < i + 1 → (kRoom pl cor sn k).toNatClampNeg ≤ wd := fun k hk => by
  by_cases h2 : k = i
  · rw [h2]; exact h
  · exact hf k (by omega)
def kZ (zz : Nat → Int32) (i : Nat) : Nat → Int32 := fun k => if k < i then 0 else zz k
theorem kZ_s (zz : Nat → Int32) (i : Nat) : kZ zz (i + 1) = upd (kZ zz i) i 0 := by
  funext k
  simp only [upd, kZ]
  by_cases hk : k = i
  · subst hk; rw [if_pos (by omega), if_pos rfl]
  · rw [if_neg hk]
    by_cases h2 : k < i
    · rw [if_pos (by omega), if_pos h2]
    · rw [if_neg (by omega), if_neg h2]
theorem kZ_0 (zz : Nat → Int32) {n k : Nat} (h : k < n) : kZ zz n k = 0 := if_pos h
theorem kZ_z (zz : Nat → Int32) : kZ zz 0 = zz := by funext k; simp [kZ]
/-- the search looks at the numbers of its pieces alone -/
theorem kIt_c {σ : Type} {f g : Nat → σ → σ} {n : Nat} (h : ∀ i s, i < n → f i s = g i s) : ∀ m s, m ≤ n → kIt f m s = kIt g m s
  | 0, s, _ => rfl
  | m + 1, s, hm => by
    show f m (kIt f m s) = g m (kIt g m s)
    rw [kIt_c h m s (by omega), h m _ (by omega)]
theorem kLN_c {wn hn wn2 hn2 : Nat → Nat} {np wd ck : Nat} (h1 : ∀ k, k < np → wn k = wn2 k) (h2 : ∀ k, k < np → hn k = hn2 k) : ∀ rem dp tp rt tl zz s, kLN wn hn np wd ck rem dp tp rt tl zz s = kLN wn2 hn2 np wd ck rem dp tp rt tl zz s := by
  intro rem
  induction rem with
  | zero => intro dp tp rt tl zz s; rfl
  | succ rem ih =>
    intro dp tp rt tl zz s
    rw [kLN_succ, kLN_succ, kIt_c (n := np) (fun i s hi => ?_) np s (Nat.le_refl _)]
    unfold kLF
    rw [h1 i hi, h2 i hi, ih, ih]
theorem kLN_wn {wn hn wn2 hn2 : Nat → Nat} {np wd ck rem dp tp rt tl : Nat} {zz : Nat → Int32} {s : kS3} (h1 : ∀ {k}, k < np → wn k = wn2 k) (h2 : ∀ {k}, k < np → hn k = hn2 k) : kLN wn hn np wd ck rem dp tp rt tl zz s = kLN wn2 hn2 np wd ck rem dp tp rt tl zz s := kLN_c (fun _ h => h1 h) (fun _ h => h2 h) rem dp tp rt tl zz s
theorem kx_updc {z z2 : Nat → Int32} {np i : Nat} {v : Int32} (h : ∀ k, k < np → z k = z2 k) : ∀ k, k < np → upd z i v k = upd z2 i v k := fun k hk => by
  unfold upd
  by_cases hi : k = i
  · rw [if_pos hi, if_pos hi]
  · rw [if_neg hi, if_neg hi]; exact h k hk
theorem kLN_z {wn hn : Nat → Nat} {np wd ck : Nat} : ∀ rem dp tp rt tl z z2 s, (∀ k, k < np → z k = z2 k) → kLN wn hn np wd ck rem dp tp rt tl z s = kLN wn hn np wd ck rem dp tp rt tl z2 s := by
  intro rem
  induction rem with
  | zero => intro dp tp rt tl z z2 s _; rfl
  | succ rem ih =>
    intro dp tp rt tl z z2 s h
    rw [kLN_succ, kLN_succ, kIt_c (n := np) (fun i s hi => ?_) np s (Nat.le_refl _)]
    unfold kLF
    rw [h i hi, ih _ _ _ _ _ _ _ (kx_updc h), ih _ _ _ _ _ _ _ (kx_updc h)]
theorem kMN_z {cu se fi pr : Nat → Nat} {np : Nat} : ∀ rem dp ct sw fn la z z2 s, (∀ k, k < np → z k = z2 k) → kMN cu se fi pr np rem dp ct sw fn la z s = kMN cu se fi pr np rem dp ct sw fn la z2 s := by
  intro rem
  induction rem with
  | zero => intro dp ct sw fn la z z2 s _; rfl
  | succ rem ih =>
    intro dp ct sw fn la z z2 s h
    rw [kMN_succ, kMN_succ, kIt_c (n := np) (fun i s hi => ?_) np s (Nat.le_refl _)]
    unfold kMF
    rw [h i hi, ih _ _ _ _ _ _ _ _ (kx_updc h)]
def kLay (xx yy cor : Nat → Int32) (sn : Nat → Nat) (pcs wd ck : Nat) (od bo : Nat → Int32) : kS3 := kLN (fun k => (kRoom xx cor sn k).toNatClampNeg) (fun k => (kRoom yy cor sn k).toNatClampNeg) pcs wd ck pcs 0 0 0 0 (fun _ => 0) (od, bo, 2000000000)
def kShop (cu se fi pr : Nat → Nat) (nc : Nat) (oc bc : Nat → Int32) : kS4 := kMN cu se fi pr nc nc 0 0 0 0 0 (fun _ => 0) (oc, bc, 2000000000, 2000000000)
theorem h_X2_spread (cI cZ : ClassId) (qB : Nat) (qB0 : Nat) (qB1 : Nat) (qB2 : Nat) (qB3 : Nat) (qB4 : Nat) (wn : Nat → Nat) (hn : Nat → Nat) (zz : Nat → Int32) (od : Nat → Int32) (bo : Nat → Int32) (np : Nat) (le : Nat) (wd : Nat) (ck : Nat) : ∀ u, (((fun u : Nat × Nat => [(qB, .inr (2, [.ref qB0, .ref qB1, .ref qB2, .ref qB3, .ref qB4, .int (nI np), .int (nI le), .int (nI u.1), .int (nI u.2)])), (qB0, .inl (cI, 7, .inl (fun k => nI (wn k)))), (qB1, .inl (cI, 7, .inl (fun k => nI (hn k)))), (qB2, .inl (cZ, 7, .inl zz)), (qB3, .inl (cI, 7, .inl od)), (qB4, .inl (cI, 7, .inl bo))]) : (Nat × Nat) → va_W) u).map Prod.fst = ([(qB, .inr (2, [.ref qB0, .ref qB1, .ref qB2, .ref qB3, .ref qB4, .int (nI np), .int (nI le), .int (nI wd), .int (nI ck)])), (qB0, .inl (cI, 7, .inl (fun k => nI (wn k)))), (qB1, .inl (cI, 7, .inl (fun k => nI (hn k)))), (qB2, .inl (cZ, 7, .inl zz)), (qB3, .inl (cI, 7, .inl od)), (qB4, .inl (cI, 7, .inl bo))] : va_W).map Prod.fst := fun _ => rfl
abbrev rm_X2_spread : Room := { frames := 0, cells := 0, slots := 0, locals := 0 }
set_option maxHeartbeats 4000000 in
set_option maxRecDepth 100000 in
theorem c_X2_spread (l : Launch) (G : va_G) (cI cZ : ClassId) (qB : Nat) (qB0 : Nat) (qB1 : Nat) (qB2 : Nat) (qB3 : Nat) (qB4 : Nat) (wn : Nat → Nat) (hn : Nat → Nat) (zz : Nat → Int32) (od : Nat → Int32) (bo : Nat → Int32) (np : Nat) (le : Nat) (wd : Nat) (ck : Nat) (sz : Nat) (w : Nat) (ch : Nat) : Met l yX2_spread wsX2_spread rm_X2_spread (kx_Pw G cI cZ [(qB, .inr (2, [.ref qB0, .ref qB1, .ref qB2, .ref qB3, .ref qB4, .int (nI np), .int (nI le), .int (nI wd), .int (nI ck)])), (qB0, .inl (cI, 7, .inl (fun k => nI (wn k)))), (qB1, .inl (cI, 7, .inl (fun k => nI (hn k)))), (qB2, .inl (cZ, 7, .inl zz)), (qB3, .inl (cI, 7, .inl od)), (qB4, .inl (cI, 7, .inl bo))] sz [.ref qB, .int (nI w), .int (nI ch)]) (va_Qv (fun (u : Nat × Nat) => w = u.1 ∧ ch = u.2) (fun u t => va_P G vwCl ((fun u : Nat × Nat => [(qB, .inr (2, [.ref qB0, .ref qB1, .ref qB2, .ref qB3, .ref qB4, .int (nI np), .int (nI le), .int (nI u.1), .int (nI u.2)])), (qB0, .inl (cI, 7, .inl (fun k => nI (wn k)))), (qB1, .inl (cI, 7, .inl (fun k => nI (hn k)))), (qB2, .inl (cZ, 7, .inl zz)), (qB3, .inl (cI, 7, .inl od)), (qB4, .inl (cI, 7, .inl bo))]) u) t.heap) (va_A [(qB, .inr (2, [.ref qB0, .ref qB1, .ref qB2, .ref qB3, .ref qB4, .int (nI np), .int (nI le), .int (nI wd), .int (nI ck)])), (qB0, .inl (cI, 7, .inl (fun k => nI (wn k)))), (qB1, .inl (cI, 7, .inl (fun k => nI (hn k)))), (qB2, .inl (cZ, 7, .inl zz)), (qB3, .inl (cI, 7, .inl od)), (qB4, .inl (cI, 7, .inl bo))] sz)) 0 0 (va_A [(qB, .inr (2, [.ref qB0, .ref qB1, .ref qB2, .ref qB3, .ref qB4, .int (nI np), .int (nI le), .int (nI wd), .int (nI ck)])), (qB0, .inl (cI, 7, .inl (fun k => nI (wn k)))), (qB1, .inl (cI, 7, .inl (fun k => nI (hn k)))), (qB2, .inl (cZ, 7, .inl zz)), (qB3, .inl (cI, 7, .inl od)), (qB4, .inl (cI, 7, .inl bo))] sz) := by
  refine Met.ofW (cc := cX2_spread) (maxL := 3) (ret := none) (by decide) rfl ?_
  intro p e s m args below meth c s₁ B hml hv
  obtain ⟨rfl, hsz, hP, hD0, hK⟩ := hv
  have hx := B.exec
  have hb := B.bytes
  have hr := B.returns
  have hts := atoms_spec (ws := wsX2_spread) B.pre
  have hown : s.vm.findClass RX2 = some m.cls := findClass_of_methodNamed B.named
  have hlocks := B.notSynchronized
  subst hsz
  have hD := hD0.self (sz := s.heap.size)
  generalize hAe : va_A [(qB, .inr (2, [.ref qB0, .ref qB1, .ref qB2, .ref qB3, .ref qB4, .int (nI np), .int (nI le), .int (nI wd), .int (nI ck)])), (qB0, .inl (cI, 7, .inl (fun k => nI (wn k)))), (qB1, .inl (cI, 7, .inl (fun k => nI (hn k)))), (qB2, .inl (cZ, 7, .inl zz)), (qB3, .inl (cI, 7, .inl od)), (qB4, .inl (cI, 7, .inl bo))] s.heap.size = A at hD ⊢
  have hA : ∀ q : Nat, s.heap.size ≤ q → A q := fun q h => by rw [← hAe]; exact Or.inr h
  have hS : va_S A s.heap s.heap [] := va_S.rf
  have hl := lv_entry ([.ref qB, .int (nI w), .int (nI ch)]) (n := 3) (Nat.le_of_ble_eq_true rfl)
  rw [lg_entry_eq]
  generalize (lg_sl ([.ref qB, .int (nI w), .int (nI ch)]) ++ List.replicate (3 - (lg_sl ([.ref qB, .int (nI w), .int (nI ch)])).length) Slot.unset).toArray = ls at hl ⊢
  have hl : lv_has ls 3 [(0, .ref qB), (1, .int (nI w)), (2, .int (nI ch))] := hl
  refine lv_aload_n hx hb dX2_spread_0 rfl (lv_at hl 0 rfl) ?_
  refine lv_iload_n hx hb dX2_spread_1 rfl (lv_at hl 1 rfl) ?_
  refine va_put (D := G) (ci := 2) (v := .int (nI w)) (ty := .int) (C := RX2) (T := TX2) (N := 9) hx hb hts (fun _ h => List.mem_cons_of_mem _ (List.mem_append_right _ h)) tyX2 tyX2_ok nmX2 hown hK.1 hP hD hS 0 rfl rfl 7 (by decide) (hts (.fieldLink RX2 35 "TailorHouse$Table" "width" "I") (List.mem_of_getElem? (i := 1) rfl)) (fun _ h9 => h9) rfl (by decide +kernel) rfl rfl (Nat.le_of_ble_eq_true rfl) dX2_spread_2 (fun H locs hP hD hS => ?_)
  have hP : va_P G vwCl [(qB, .inr (2, [.ref qB0, .ref qB1, .ref qB2, .ref qB3, .ref qB4, .int (nI np), .int (nI le), .int (nI w), .int (nI ck)])), (qB0, .inl (cI, 7, .inl (fun k => nI (wn k)))), (qB1, .inl (cI, 7, .inl (fun k => nI (hn k)))), (qB2, .inl (cZ, 7, .inl zz)), (qB3, .inl (cI, 7, .inl od)), (qB4, .inl (cI, 7, .inl bo))] H := hP
  have hD : va_D A [(qB, .inr (2, [.ref qB0, .ref qB1, .ref qB2, .ref qB3, .ref qB4, .int (nI np), .int (nI le), .int (nI w), .int (nI ck)])), (qB0, .inl (cI, 7, .inl (fun k => nI (wn k)))), (qB1, .inl (cI, 7, .inl (fun k => nI (hn k)))), (qB2, .inl (cZ, 7, .inl zz)), (qB3, .inl (cI, 7, .inl od)), (qB4, .inl (cI, 7, .inl bo))] := hD
  refine lv_aload_n hx hb dX2_spread_5 rfl (lv_at hl 0 rfl) ?_
  refine lv_iload_n hx hb dX2_spread_6 rfl (lv_at hl 2 rfl) ?_
  refine va_put (D := G) (ci := 2) (v := .int (nI ch)) (ty := .int) (C := RX2) (T := TX2) (N := 9) hx hb hts (fun _ h => List.mem_cons_of_mem _ (List.mem_append_right _ h)) tyX2 tyX2_ok nmX2 hown hK.1 hP hD hS 0 rfl rfl 8 (by decide) (hts (.fieldLink RX2 38 "TailorHouse$Table" "check" "I") (List.mem_of_getElem? (i := 2) rfl)) (fun _ h9 => h9) rfl (by decide +kernel) rfl rfl (Nat.le_of_ble_eq_true rfl) dX2_spread_7 (fun H locs hP hD hS => ?_)
  have hP : va_P G vwCl [(qB, .inr (2, [.ref qB0, .ref qB1, .ref qB2, .ref qB3, .ref qB4, .int (nI np), .int (nI le), .int (nI w), .int (nI ch)])), (qB0, .inl (cI, 7, .inl (fun k => nI (wn k)))), (qB1, .inl (cI, 7, .inl (fun k => nI (hn k)))), (qB2, .inl (cZ, 7, .inl zz)), (qB3, .inl (cI, 7, .inl od)), (qB4, .inl (cI, 7, .inl bo))] H := hP
  have hD : va_D A [(qB, .inr (2, [.ref qB0, .ref qB1, .ref qB2, .ref qB3, .ref qB4, .int (nI np), .int (nI le), .int (nI w), .int (nI ch)])), (qB0, .inl (cI, 7, .inl (fun k => nI (wn k)))), (qB1, .inl (cI, 7, .inl (fun k => nI (hn k)))), (qB2, .inl (cZ, 7, .inl zz)), (qB3, .inl (cI, 7, .inl od)), (qB4, .inl (cI, 7, .inl bo))] := hD
  exact W.vret hx hb hr (fun t ht hW => ⟨⟨(w, ch), rfl, ⟨rfl, rfl⟩, by (show va_P G vwCl _ t.heap; rw [ht]; exact hP)⟩, hS.F ht⟩) hS.2.2 dX2_spread_10 hlocks
abbrev rm_X2_nextCheck : Room := { frames := 1, cells := 0, slots := 0, locals := 21 }
set_option maxHeartbeats 4000000 in
set_option maxRecDepth 100000 in
theorem c_X2_nextCheck (l : Launch) (G : va_G) (cI cZ : ClassId) (qB : Nat) (qB0 : Nat) (qB1 : Nat) (qB2 : Nat) (qB3 : Nat) (qB4 : Nat) (wn : Nat → Nat) (hn : Nat → Nat) (zz : Nat → Int32) (od : Nat → Int32) (bo : Nat → Int32) (np : Nat) (le : Nat) (wd : Nat) (ck : Nat) (ee : Nat) (hck : 1 ≤ ck) (hbd : ee + ck < 2147483648) : Met l yX2_nextCheck wsX2_nextCheck rm_X2_nextCheck (kx_Pr G cI cZ [(qB, .inr (2, [.ref qB0, .ref qB1, .ref qB2, .ref qB3, .ref qB4, .int (nI np), .int (nI le), .int (nI wd), .int (nI ck)])), (qB0, .inl (cI, 7, .inl (fun k => nI (wn k)))), (qB1, .inl (cI, 7, .inl (fun k => nI (hn k)))), (qB2, .inl (cZ, 7, .inl zz)), (qB3, .inl (cI, 7, .inl od)), (qB4, .inl (cI, 7, .inl bo))] [.ref qB, .int (nI ee)]) (QcRead (nI (kNC ck ee))) 0 0 (fun _ => False) := by
  refine Met.ofW (cc := cX2_nextCheck) (maxL := 2) (ret := (some .int)) (by decide) rfl ?_
  intro p e s m args below meth c s₁ B hml hv
  obtain ⟨rfl, hP, hK⟩ := hv
  have hx := B.exec
  have hb := B.bytes
  have hr := B.returns
  have hts := atoms_spec (ws := wsX2_nextCheck) B.pre
  have hown : s.vm.findClass RX2 = some m.cls := findClass_of_methodNamed B.named
  have hlocks := B.notSynchronized
  have hl := lv_entry ([.ref qB, .int (nI ee)]) (n := 2) (Nat.le_of_ble_eq_true rfl)
  rw [lg_entry_eq]
  generalize (lg_sl ([.ref qB, .int (nI ee)]) ++ List.replicate (2 - (lg_sl ([.ref qB, .int (nI ee)])).length) Slot.unset).toArray = ls at hl ⊢
  have hl : lv_has ls 2 [(0, .ref qB), (1, .int (nI ee))] := hl
  refine lv_iload_n hx hb dX2_nextCheck_0 rfl (lv_at hl 1 rfl) ?_
  refine lv_aload_n hx hb dX2_nextCheck_1 rfl (lv_at hl 0 rfl) ?_
  refine va_get (D := G) (ci := 2) (v := .int (nI ck)) (C := RX2) (T := TX2) (N := 9) hx hb hts (fun _ h => List.mem_cons_of_mem _ (List.mem_append_right _ h)) hown hK.1 hP 0 rfl rfl 8 (by decide) (hts (.fieldLink RX2 38 "TailorHouse$Table" "check" "I") (List.mem_of_getElem? (i := 1) rfl)) (fun _ h9 => h9) rfl dX2_nextCheck_2 ?_
  refine kx_iaddN hx hb ee ck dX2_nextCheck_5 ?_
  refine lv_iconst (v := 1) hx hb dX2_nextCheck_6 (by decide) ?_
  refine kx_isubN hx hb (ee + ck) 1 (by omega) dX2_nextCheck_7 ?_
  refine lv_aload_n hx hb dX2_nextCheck_8 rfl (lv_at hl 0 rfl) ?_
  refine va_get (D := G) (ci := 2) (v := .int (nI ck)) (C := RX2) (T := TX2) (N := 9) hx hb hts (fun _ h => List.mem_cons_of_mem _ (List.mem_append_right _ h)) hown hK.1 hP 0 rfl rfl 8 (by decide) (hts (.fieldLink RX2 38 "TailorHouse$Table" "check" "I") (List.mem_of_getElem? (i := 1) rfl)) (fun _ h9 => h9) rfl dX2_nextCheck_9 ?_
  refine kx_ri (va_runSN (As := [.int (nI ((ee + ck) - 1)), .int (nI ck)]) (rest := []) ⟨hx, hb, hml, hown, hts⟩ (c_X5_divide l (nI ((ee + ck) - 1)) (nI ck)) ⟨va_cnB 2 hts gX2_nextCheck_X5_divide_n71 rfl rfl rfl (hK.2 _ (List.mem_of_getElem? (i := 22) rfl)) (hts (.initialized RX5) (List.mem_of_getElem? (i := 3) rfl)) (by decide +kernel) ⟨(Nat.le_of_ble_eq_true rfl), (Nat.le_of_ble_eq_true rfl)⟩, (hts (.static yX5_divide) (List.mem_of_getElem? (i := 2) rfl)), trivial⟩ kx_preS rfl rfl hl.1 rfl (lv_room (Nat.le_of_ble_eq_true rfl)) dX2_nextCheck_12 ⟨Nat.zero_le _, Nat.zero_le _⟩) ?_
  refine kx_top (y := nI ((ee + ck - 1) / ck)) (kx_divN (by omega) (by omega) (by omega)) ?_
  refine lv_aload_n hx hb dX2_nextCheck_15 rfl (lv_at hl 0 rfl) ?_
  refine va_get (D := G) (ci := 2) (v := .int (nI ck)) (C := RX2) (T := TX2) (N := 9) hx hb hts (fun _ h => List.mem_cons_of_mem _ (List.mem_append_right _ h)) hown hK.1 hP 0 rfl rfl 8 (by decide) (hts (.fieldLink RX2 38 "TailorHouse$Table" "check" "I") (List.mem_of_getElem? (i := 1) rfl)) (fun _ h9 => h9) rfl dX2_nextCheck_16 ?_
  refine kx_imulN hx hb ((ee + ck - 1) / ck) ck dX2_nextCheck_19 ?_
  exact kx_iret hx hb hr (v := (nI (((ee + ck - 1) / ck) * ck))) (rfl) dX2_nextCheck_20 hlocks
theorem h_X2_layNext (cI cZ : ClassId) (qB : Nat) (qB0 : Nat) (qB1 : Nat) (qB2 : Nat) (qB3 : Nat) (qB4 : Nat) (wn : Nat → Nat) (hn : Nat → Nat) (zz : Nat → Int32) (od : Nat → Int32) (bo : Nat → Int32) (np : Nat) (le : Nat) (wd : Nat) (ck : Nat) : ∀ u, (((fun u : (Nat → Int32) × (Nat → Int32) × Nat => [(qB, .inr (2, [.ref qB0, .ref qB1, .ref qB2, .ref qB3, .ref qB4, .int (nI np), .int (nI u.2.2), .int (nI wd), .int (nI ck)])), (qB0, .inl (cI, 7, .inl (fun k => nI (wn k)))), (qB1, .inl (cI, 7, .inl (fun k => nI (hn k)))), (qB2, .inl (cZ, 7, .inl zz)), (qB3, .inl (cI, 7, .inl u.1)), (qB4, .inl (cI, 7, .inl u.2.1))]) : ((Nat → Int32) × (Nat → Int32) × Nat) → va_W) u).map Prod.fst = ([(qB, .inr (2, [.ref qB0, .ref qB1, .ref qB2, .ref qB3, .ref qB4, .int (nI np), .int (nI le), .int (nI wd), .int (nI ck)])), (qB0, .inl (cI, 7, .inl (fun k => nI (wn k)))), (qB1, .inl (cI, 7, .inl (fun k => nI (hn k)))), (qB2, .inl (cZ, 7, .inl zz)), (qB3, .inl (cI, 7, .inl od)), (qB4, .inl (cI, 7, .inl bo))] : va_W).map Prod.fst := fun _ => rfl
def rm_X2_layNext (rem : Nat) : Room := { frames := rem + 3, cells := 0, slots := 0, locals := rem * 25 + 80 }
set_option maxHeartbeats 8000000 in
set_option maxRecDepth 100000 in
theorem c_X2_layNext : ∀ (rem : Nat) (l : Launch) (G : va_G) (cI cZ : ClassId) (qB : Nat) (qB0 : Nat) (qB1 : Nat) (qB2 : Nat) (qB3 : Nat) (qB4 : Nat) (wn : Nat → Nat) (hn : Nat → Nat) (zz : Nat → Int32) (od : Nat → Int32) (bo : Nat → Int32) (np : Nat) (le : Nat) (wd : Nat) (ck : Nat) (sz : Nat) (dp : Nat) (tp : Nat) (rt : Nat) (tl : Nat) (hnp : np ≤ 7) (hdp : dp + rem = np) (hw : ∀ k, k < np → wn k ≤ 5000) (hh : ∀ k, k < np → hn k ≤ 3000000) (hwd : wd ≤ 5000) (hck : 1 ≤ ck ∧ ck ≤ 500) (htp : tp ≤ dp * 3000500) (htl : tl ≤ 3000000) (hrt : rt ≤ 5000) (hle : le ≤ 2000000000), Met l yX2_layNext wsX2_layNext (rm_X2_layNext rem) (kx_Pw G cI cZ [(qB, .inr (2, [.ref qB0, .ref qB1, .ref qB2, .ref qB3, .ref qB4, .int (nI np), .int (nI le), .int (nI wd), .int (nI ck)])), (qB0, .inl (cI, 7, .inl (fun k => nI (wn k)))), (qB1, .inl (cI, 7, .inl (fun k => nI (hn k)))), (qB2, .inl (cZ, 7, .inl zz)), (qB3, .inl (cI, 7, .inl od)), (qB4, .inl (cI, 7, .inl bo))] sz [.ref qB, .int (nI dp), .int (nI tp), .int (nI rt), .int (nI tl)]) (va_Qv (fun (u : (Nat → Int32) × (Nat → Int32) × Nat) => (kLN wn hn np wd ck rem dp tp rt tl zz (od, bo, le)).1 = u.1 ∧ (kLN wn hn np wd ck rem dp tp rt tl zz (od, bo, le)).2.1 = u.2.1 ∧ (kLN wn hn np wd ck rem dp tp rt tl zz (od, bo, le)).2.2 = u.2.2) (fun u t => va_P G vwCl ((fun u : (Nat → Int32) × (Nat → Int32) × Nat => [(qB, .inr (2, [.ref qB0, .ref qB1, .ref qB2, .ref qB3, .ref qB4, .int (nI np), .int (nI u.2.2), .int (nI wd), .int (nI ck)])), (qB0, .inl (cI, 7, .inl (fun k => nI (wn k)))), (qB1, .inl (cI, 7, .inl (fun k => nI (hn k)))), (qB2, .inl (cZ, 7, .inl zz)), (qB3, .inl (cI, 7, .inl u.1)), (qB4, .inl (cI, 7, .inl u.2.1))]) u) t.heap) (va_A [(qB, .inr (2, [.ref qB0, .ref qB1, .ref qB2, .ref qB3, .ref qB4, .int (nI np), .int (nI le), .int (nI wd), .int (nI ck)])), (qB0, .inl (cI, 7, .inl (fun k => nI (wn k)))), (qB1, .inl (cI, 7, .inl (fun k => nI (hn k)))), (qB2, .inl (cZ, 7, .inl zz)), (qB3, .inl (cI, 7, .inl od)), (qB4, .inl (cI, 7, .inl bo))] sz)) 0 0 (va_A [(qB, .inr (2, [.ref qB0, .ref qB1, .ref qB2, .ref qB3, .ref qB4, .int (nI np), .int (nI le), .int (nI wd), .int (nI ck)])), (qB0, .inl (cI, 7, .inl (fun k => nI (wn k)))), (qB1, .inl (cI, 7, .inl (fun k => nI (hn k)))), (qB2, .inl (cZ, 7, .inl zz)), (qB3, .inl (cI, 7, .inl od)), (qB4, .inl (cI, 7, .inl bo))] sz) := by
  intro rem
  induction rem with
  | zero =>
    intro l G cI cZ qB qB0 qB1 qB2 qB3 qB4 wn hn zz od bo np le wd ck sz dp tp rt tl hnp hdp hw hh hwd hck htp htl hrt hle
    refine Met.ofW (cc := cX2_layNext) (maxL := 6) (ret := none) (by decide) rfl ?_
    intro p e s m args below meth c s₁ B hml hv
    obtain ⟨rfl, hsz, hP, hD0, hK⟩ := hv
    have hx := B.exec
    have hb := B.bytes
    have hr := B.returns
    have hts := atoms_spec (ws := wsX2_layNext) B.pre
    have hown : s.vm.findClass RX2 = some m.cls := findClass_of_methodNamed B.named
    have hlocks := B.notSynchronized
    subst hsz
    have hD := hD0.self (sz := s.heap.size)
    generalize hAe : va_A [(qB, .inr (2, [.ref qB0, .ref qB1, .ref qB2, .ref qB3, .ref qB4, .int (nI np), .int (nI le), .int (nI wd), .int (nI ck)])), (qB0, .inl (cI, 7, .inl (fun k => nI (wn k)))), (qB1, .inl (cI, 7, .inl (fun k => nI (hn k)))), (qB2, .inl (cZ, 7, .inl zz)), (qB3, .inl (cI, 7, .inl od)), (qB4, .inl (cI, 7, .inl bo))] s.heap.size = A at hD ⊢
    have hA : ∀ q : Nat, s.heap.size ≤ q → A q := fun q h => by rw [← hAe]; exact Or.inr h
    have hS : va_S A s.heap s.heap [] := va_S.rf
    have hl := lv_entry ([.ref qB, .int (nI dp), .int (nI tp), .int (nI rt), .int (nI tl)]) (n := 6) (Nat.le_of_ble_eq_true rfl)
    rw [lg_entry_eq]
    generalize (lg_sl ([.ref qB, .int (nI dp), .int (nI tp), .int (nI rt), .int (nI tl)]) ++ List.replicate (6 - (lg_sl ([.ref qB, .int (nI dp), .int (nI tp), .int (nI rt), .int (nI tl)])).length) Slot.unset).toArray = ls at hl ⊢
    have hl : lv_has ls 6 [(0, .ref qB), (1, .int (nI dp)), (2, .int (nI tp)), (3, .int (nI rt)), (4, .int (nI tl))] := hl
    refine lv_iload_n hx hb dX2_layNext_0 rfl (lv_at hl 2 rfl) ?_
    refine lv_iload hx hb dX2_layNext_1 (lv_at hl 4 rfl) ?_
    refine kx_iaddN hx hb tp tl dX2_layNext_3 ?_
    refine lv_aload_n hx hb dX2_layNext_4 rfl (lv_at hl 0 rfl) ?_
    refine va_get (D := G) (ci := 2) (v := .int (nI le)) (C := RX2) (T := TX2) (N := 9) hx hb hts (fun _ h => List.mem_cons_of_mem _ (List.mem_append_right _ h)) hown hK.1 hP 0 rfl rfl 6 (by decide) (hts (.fieldLink RX2 32 "TailorHouse$Table" "leastEnd" "I") (List.mem_of_getElem? (i := 1) rfl)) (fun _ h9 => h9) rfl dX2_layNext_5 ?_
    refine kx_ltN hx hb (tp + tl) le (by omega) (by omega) (tgt := 12) dX2_layNext_8 (by decide) (fun c_1 => ?_) (fun c_1 => ?_)
    · skip
      refine lv_iload_n hx hb dX2_layNext_12 rfl (lv_at hl 1 rfl) ?_
      refine lv_aload_n hx hb dX2_layNext_13 rfl (lv_at hl 0 rfl) ?_
      refine va_get (D := G) (ci := 2) (v := .int (nI np)) (C := RX2) (T := TX2) (N := 9) hx hb hts (fun _ h => List.mem_cons_of_mem _ (List.mem_append_right _ h)) hown hK.1 hP 0 rfl rfl 5 (by decide) (hts (.fieldLink RX2 28 "TailorHouse$Table" "pieces" "I") (List.mem_of_getElem? (i := 2) rfl)) (fun _ h9 => h9) rfl dX2_layNext_14 ?_
      refine kx_ltN hx hb dp np (by omega) (by omega) (tgt := 46) dX2_layNext_17 (by decide) (fun c_2 => ?_) (fun c_2 => ?_)
      · exact absurd c_2 (by omega)
      · skip
        refine lv_aload_n hx hb dX2_layNext_20 rfl (lv_at hl 0 rfl) ?_
        refine lv_iload_n hx hb dX2_layNext_21 rfl (lv_at hl 2 rfl) ?_
        refine lv_iload hx hb dX2_layNext_22 (lv_at hl 4 rfl) ?_
        refine kx_iaddN hx hb tp tl dX2_layNext_24 ?_
        refine va_put (D := G) (ci := 2) (v := .int (nI (tp + tl))) (ty := .int) (C := RX2) (T := TX2) (N := 9) hx hb hts (fun _ h => List.mem_cons_of_mem _ (List.mem_append_right _ h)) tyX2 tyX2_ok nmX2 hown hK.1 hP hD hS 0 rfl rfl 6 (by decide) (hts (.fieldLink RX2 32 "TailorHouse$Table" "leastEnd" "I") (List.mem_of_getElem? (i := 1) rfl)) (fun _ h9 => h9) rfl (by decide +kernel) rfl rfl (Nat.le_of_ble_eq_true rfl) dX2_layNext_25 (fun H locs hP hD hS => ?_)
        have hP : va_P G vwCl [(qB, .inr (2, [.ref qB0, .ref qB1, .ref qB2, .ref qB3, .ref qB4, .int (nI np), .int (nI (tp + tl)), .int (nI wd), .int (nI ck)])), (qB0, .inl (cI, 7, .inl (fun k => nI (wn k)))), (qB1, .inl (cI, 7, .inl (fun k => nI (hn k)))), (qB2, .inl (cZ, 7, .inl zz)), (qB3, .inl (cI, 7, .inl od)), (qB4, .inl (cI, 7, .inl bo))] H := hP
        have hD : va_D A [(qB, .inr (2, [.ref qB0, .ref qB1, .ref qB2, .ref qB3, .ref qB4, .int (nI np), .int (nI (tp + tl)), .int (nI wd), .int (nI ck)])), (qB0, .inl (cI, 7, .inl (fun k => nI (wn k)))), (qB1, .inl (cI, 7, .inl (fun k => nI (hn k)))), (qB2, .inl (cZ, 7, .inl zz)), (qB3, .inl (cI, 7, .inl od)), (qB4, .inl (cI, 7, .inl bo))] := hD
        refine lv_aload_n hx hb dX2_layNext_28 rfl (lv_at hl 0 rfl) ?_
        refine va_get (D := G) (ci := 2) (v := .ref qB3) (C := RX2) (T := TX2) (N := 9) hx hb hts (fun _ h => List.mem_cons_of_mem _ (List.mem_append_right _ h)) hown hK.1 hP 0 rfl rfl 3 (by decide) (hts (.fieldLink RX2 22 "TailorHouse$Table" "order" "[I") (List.mem_of_getElem? (i := 3) rfl)) (fun _ h9 => h9) rfl dX2_layNext_29 ?_
        refine lv_iconst (v := 0) hx hb dX2_layNext_32 (by decide) ?_
        refine lv_aload_n hx hb dX2_layNext_33 rfl (lv_at hl 0 rfl) ?_
        refine va_get (D := G) (ci := 2) (v := .ref qB4) (C := RX2) (T := TX2) (N := 9) hx hb hts (fun _ h => List.mem_cons_of_mem _ (List.mem_append_right _ h)) hown hK.1 hP 0 rfl rfl 4 (by decide) (hts (.fieldLink RX2 25 "TailorHouse$Table" "bestOrder" "[I") (List.mem_of_getElem? (i := 4) rfl)) (fun _ h9 => h9) rfl dX2_layNext_34 ?_
        refine lv_iconst (v := 0) hx hb dX2_layNext_37 (by decide) ?_
        refine lv_aload_n hx hb dX2_layNext_38 rfl (lv_at hl 0 rfl) ?_
        refine va_get (D := G) (ci := 2) (v := .int (nI np)) (C := RX2) (T := TX2) (N := 9) hx hb hts (fun _ h => List.mem_cons_of_mem _ (List.mem_append_right _ h)) hown hK.1 hP 0 rfl rfl 5 (by decide) (hts (.fieldLink RX2 28 "TailorHouse$Table" "pieces" "I") (List.mem_of_getElem? (i := 2) rfl)) (fun _ h9 => h9) rfl dX2_layNext_39 ?_
        refine kx_copyN hx hb (by rw [hml]; exact hl.1.symm) hown (hts (.methodLink RX2 56 arraycopyName) (List.mem_of_getElem? (i := 5) rfl)) (hts (.native arraycopyName) (List.mem_of_getElem? (i := 6) rfl)) (hts (.static arraycopyName) (List.mem_of_getElem? (i := 7) rfl)) (hts (.initialized "java/lang/System") (List.mem_of_getElem? (i := 8) rfl)) hK.1 hP hD hS 4 5 rfl rfl rfl np (by omega) (by omega) (by decide) (Nat.le_of_ble_eq_true rfl) (Nat.le_of_ble_eq_true rfl) dX2_layNext_42 (fun H locs hP hD hS => ?_)
        have hP : va_P G vwCl [(qB, .inr (2, [.ref qB0, .ref qB1, .ref qB2, .ref qB3, .ref qB4, .int (nI np), .int (nI (tp + tl)), .int (nI wd), .int (nI ck)])), (qB0, .inl (cI, 7, .inl (fun k => nI (wn k)))), (qB1, .inl (cI, 7, .inl (fun k => nI (hn k)))), (qB2, .inl (cZ, 7, .inl zz)), (qB3, .inl (cI, 7, .inl od)), (qB4, .inl (cI, 7, .inl (va_cpy od bo 0 0 np)))] H := hP
        have hD : va_D A [(qB, .inr (2, [.ref qB0, .ref qB1, .ref qB2, .ref qB3, .ref qB4, .int (nI np), .int (nI (tp + tl)), .int (nI wd), .int (nI ck)])), (qB0, .inl (cI, 7, .inl (fun k => nI (wn k)))), (qB1, .inl (cI, 7, .inl (fun k => nI (hn k)))), (qB2, .inl (cZ, 7, .inl zz)), (qB3, .inl (cI, 7, .inl od)), (qB4, .inl (cI, 7, .inl (va_cpy od bo 0 0 np)))] := hD
        exact W.vret hx hb hr (fun t ht hW => ⟨⟨(od, va_cpy od bo 0 0 np, tp + tl), rfl, by simp [kLN, c_1, Nat.not_le.mpr c_1], by (show va_P G vwCl _ t.heap; rw [ht]; exact hP)⟩, hS.F ht⟩) hS.2.2 dX2_layNext_45 hlocks
    · skip
      exact W.vret hx hb hr (fun t ht hW => ⟨⟨(od, bo, le), rfl, by simp [kLN, c_1, Nat.not_lt.mpr c_1], by (show va_P G vwCl _ t.heap; rw [ht]; exact hP)⟩, hS.F ht⟩) hS.2.2 dX2_layNext_11 hlocks
  | succ rem ih =>
    intro l G cI cZ qB qB0 qB1 qB2 qB3 qB4 wn hn zz od bo np le wd ck sz dp tp rt tl hnp hdp hw hh hwd hck htp htl hrt hle
    refine Met.ofW (cc := cX2_layNext) (maxL := 6) (ret := none) (by decide) rfl ?_
    intro p e s m args below meth c s₁ B hml hv
    obtain ⟨rfl, hsz, hP, hD0, hK⟩ := hv
    have hx := B.exec
    have hb := B.bytes
    have hr := B.returns
    have hts := atoms_spec (ws := wsX2_layNext) B.pre
    have hown : s.vm.findClass RX2 = some m.cls := findClass_of_methodNamed B.named
    have hlocks := B.notSynchronized
    subst hsz
    have hD := hD0.self (sz := s.heap.size)
    generalize hAe : va_A [(qB, .inr (2, [.ref qB0, .ref qB1, .ref qB2, .ref qB3, .ref qB4, .int (nI np), .int (nI le), .int (nI wd), .int (nI ck)])), (qB0, .inl (cI, 7, .inl (fun k => nI (wn k)))), (qB1, .inl (cI, 7, .inl (fun k => nI (hn k)))), (qB2, .inl (cZ, 7, .inl zz)), (qB3, .inl (cI, 7, .inl od)), (qB4, .inl (cI, 7, .inl bo))] s.heap.size = A at hD ⊢
    have hA : ∀ q : Nat, s.heap.size ≤ q → A q := fun q h => by rw [← hAe]; exact Or.inr h
    have hS : va_S A s.heap s.heap [] := va_S.rf
    have hl := lv_entry ([.ref qB, .int (nI dp), .int (nI tp), .int (nI rt), .int (nI tl)]) (n := 6) (Nat.le_of_ble_eq_true rfl)
    rw [lg_entry_eq]
    generalize (lg_sl ([.ref qB, .int (nI dp), .int (nI tp), .int (nI rt), .int (nI tl)]) ++ List.replicate (6 - (lg_sl ([.ref qB, .int (nI dp), .int (nI tp), .int (nI rt), .int (nI tl)])).length) Slot.unset).toArray = ls at hl ⊢
    have hl : lv_has ls 6 [(0, .ref qB), (1, .int (nI dp)), (2, .int (nI tp)), (3, .int (nI rt)), (4, .int (nI tl))] := hl
    refine lv_iload_n hx hb dX2_layNext_0 rfl (lv_at hl 2 rfl) ?_
    refine lv_iload hx hb dX2_layNext_1 (lv_at hl 4 rfl) ?_
    refine kx_iaddN hx hb tp tl dX2_layNext_3 ?_
    refine lv_aload_n hx hb dX2_layNext_4 rfl (lv_at hl 0 rfl) ?_
    refine va_get (D := G) (ci := 2) (v := .int (nI le)) (C := RX2) (T := TX2) (N := 9) hx hb hts (fun _ h => List.mem_cons_of_mem _ (List.mem_append_right _ h)) hown hK.1 hP 0 rfl rfl 6 (by decide) (hts (.fieldLink RX2 32 "TailorHouse$Table" "leastEnd" "I") (List.mem_of_getElem? (i := 1) rfl)) (fun _ h9 => h9) rfl dX2_layNext_5 ?_
    refine kx_ltN hx hb (tp + tl) le (by omega) (by omega) (tgt := 12) dX2_layNext_8 (by decide) (fun c_1 => ?_) (fun c_1 => ?_)
    · skip
      refine lv_iload_n hx hb dX2_layNext_12 rfl (lv_at hl 1 rfl) ?_
      refine lv_aload_n hx hb dX2_layNext_13 rfl (lv_at hl 0 rfl) ?_
      refine va_get (D := G) (ci := 2) (v := .int (nI np)) (C := RX2) (T := TX2) (N := 9) hx hb hts (fun _ h => List.mem_cons_of_mem _ (List.mem_append_right _ h)) hown hK.1 hP 0 rfl rfl 5 (by decide) (hts (.fieldLink RX2 28 "TailorHouse$Table" "pieces" "I") (List.mem_of_getElem? (i := 2) rfl)) (fun _ h9 => h9) rfl dX2_layNext_14 ?_
      refine kx_ltN hx hb dp np (by omega) (by omega) (tgt := 46) dX2_layNext_17 (by decide) (fun c_2 => ?_) (fun c_2 => ?_)
      · skip
        refine lv_iconst (v := 0) hx hb dX2_layNext_46 (by decide) ?_
        refine lv_istore (lv' := [(5, .int 0), (0, .ref qB), (1, .int (nI dp)), (2, .int (nI tp)), (3, .int (nI rt)), (4, .int (nI tl))]) hx hb dX2_layNext_47 hl (by decide) rfl (fun ls hl => ?_)
        have lab_49_3 : ∀ (nn_3 : Nat) (i : Nat) (z3_0 : Nat) (z3_1 : Nat → Int32) (z3_2 : Nat → Int32) (z3_3 : Nat → Int32) (z3_4 : Nat) (hi : i ≤ np) (ez3_0 : i = z3_0) (ez3_1 : zz = z3_1) (ez3_2 : ((kIt (kLF wn hn np wd ck rem dp tp rt tl zz) i (od, bo, le)).1) = z3_2) (ez3_3 : ((kIt (kLF wn hn np wd ck rem dp tp rt tl zz) i (od, bo, le)).2.1) = z3_3) (ez3_4 : ((kIt (kLF wn hn np wd ck rem dp tp rt tl zz) i (od, bo, le)).2.2) = z3_4) (H : Heap) (locs : List Loc) (hP : va_P G vwCl [(qB, .inr (2, [.ref qB0, .ref qB1, .ref qB2, .ref qB3, .ref qB4, .int (nI np), .int (nI z3_4), .int (nI wd), .int (nI ck)])), (qB0, .inl (cI, 7, .inl (fun k => nI (wn k)))), (qB1, .inl (cI, 7, .inl (fun k => nI (hn k)))), (qB2, .inl (cZ, 7, .inl z3_1)), (qB3, .inl (cI, 7, .inl z3_2)), (qB4, .inl (cI, 7, .inl z3_3))] H) (hD : va_D A [(qB, .inr (2, [.ref qB0, .ref qB1, .ref qB2, .ref qB3, .ref qB4, .int (nI np), .int (nI z3_4), .int (nI wd), .int (nI ck)])), (qB0, .inl (cI, 7, .inl (fun k => nI (wn k)))), (qB1, .inl (cI, 7, .inl (fun k => nI (hn k)))), (qB2, .inl (cZ, 7, .inl z3_1)), (qB3, .inl (cI, 7, .inl z3_2)), (qB4, .inl (cI, 7, .inl z3_3))]) (hS : va_S A s.heap H locs) (ls : Array Slot) (hl : lv_has ls 6 [(5, .int (nI z3_0)), (0, .ref qB), (1, .int (nI dp)), (2, .int (nI tp)), (3, .int (nI rt)), (4, .int (nI tl))]), (np - i) < nn_3 → W p l e (headSpec wsX2_layNext (rm_X2_layNext (rem + 1))).room s m ([.ref qB, .int (nI dp), .int (nI tp), .int (nI rt), .int (nI tl)] : List Value).toArray below meth c H locs 0 0 (MQ below (va_Qv (fun (u : (Nat → Int32) × (Nat → Int32) × Nat) => (kLN wn hn np wd ck (rem + 1) dp tp rt tl zz (od, bo, le)).1 = u.1 ∧ (kLN wn hn np wd ck (rem + 1) dp tp rt tl zz (od, bo, le)).2.1 = u.2.1 ∧ (kLN wn hn np wd ck (rem + 1) dp tp rt tl zz (od, bo, le)).2.2 = u.2.2) (fun u t => va_P G vwCl ((fun u : (Nat → Int32) × (Nat → Int32) × Nat => [(qB, .inr (2, [.ref qB0, .ref qB1, .ref qB2, .ref qB3, .ref qB4, .int (nI np), .int (nI u.2.2), .int (nI wd), .int (nI ck)])), (qB0, .inl (cI, 7, .inl (fun k => nI (wn k)))), (qB1, .inl (cI, 7, .inl (fun k => nI (hn k)))), (qB2, .inl (cZ, 7, .inl zz)), (qB3, .inl (cI, 7, .inl u.1)), (qB4, .inl (cI, 7, .inl u.2.1))]) u) t.heap) A) ([.ref qB, .int (nI dp), .int (nI tp), .int (nI rt), .int (nI tl)] : List Value).toArray s 0 0 A) (F0 m 49 ls []) := by
          intro nn_3
          induction nn_3 with
          | zero => intro i z3_0 z3_1 z3_2 z3_3 z3_4 hi ez3_0 ez3_1 ez3_2 ez3_3 ez3_4 H locs hP hD hS ls hl hn; exact absurd hn (Nat.not_lt_zero _)
          | succ nn_3 ih_3 =>
            intro i z3_0 z3_1 z3_2 z3_3 z3_4 hi ez3_0 ez3_1 ez3_2 ez3_3 ez3_4 H locs hP hD hS ls hl hn_3
            subst ez3_0
            subst ez3_1
            subst ez3_2
            subst ez3_3
            subst ez3_4
            refine lv_iload hx hb dX2_layNext_49 (lv_at hl 0 rfl) ?_
            refine lv_aload_n hx hb dX2_layNext_51 rfl (lv_at hl 1 rfl) ?_
            refine va_get (D := G) (ci := 2) (v := .int (nI np)) (C := RX2) (T := TX2) (N := 9) hx hb hts (fun _ h => List.mem_cons_of_mem _ (List.mem_append_right _ h)) hown hK.1 hP 0 rfl rfl 5 (by decide) (hts (.fieldLink RX2 28 "TailorHouse$Table" "pieces" "I") (List.mem_of_getElem? (i := 2) rfl)) (fun _ h9 => h9) rfl dX2_layNext_52 ?_
            refine kx_geN hx hb i np (by omega) (by omega) (tgt := 178) dX2_layNext_55 (by decide) (fun c_4 => ?_) (fun c_4 => ?_)
            · skip
              have hE : np = i := by omega
              subst hE
              exact W.vret hx hb hr (fun t ht hW => ⟨⟨((kIt (kLF wn hn np wd ck rem dp tp rt tl zz) np (od, bo, le)).1, (kIt (kLF wn hn np wd ck rem dp tp rt tl zz) np (od, bo, le)).2.1, (kIt (kLF wn hn np wd ck rem dp tp rt tl zz) np (od, bo, le)).2.2), rfl, by simp only [kLN_succ]; rw [if_neg (show ¬ le ≤ tp + tl by omega)]; exact ⟨rfl, rfl, rfl⟩, by (show va_P G vwCl _ t.heap; rw [ht]; exact hP)⟩, hS.F ht⟩) hS.2.2 dX2_layNext_178 hlocks
            · skip
              have hwi := hw i (by omega)
              have hhi := hh i (by omega)
              refine lv_aload_n hx hb dX2_layNext_58 rfl (lv_at hl 1 rfl) ?_
              refine va_get (D := G) (ci := 2) (v := .ref qB2) (C := RX2) (T := TX2) (N := 9) hx hb hts (fun _ h => List.mem_cons_of_mem _ (List.mem_append_right _ h)) hown hK.1 hP 0 rfl rfl 2 (by decide) (hts (.fieldLink RX2 18 "TailorHouse$Table" "isLaid" "[Z") (List.mem_of_getElem? (i := 9) rfl)) (fun _ h9 => h9) rfl dX2_layNext_59 ?_
              refine lv_iload hx hb dX2_layNext_62 (lv_at hl 0 rfl) ?_
              refine kx_zaldN hx hb hK.1 hP 3 rfl rfl i (by omega) (by decide) dX2_layNext_64 ?_
              refine lv_if_eq (tgt := 71) hx hb dX2_layNext_65 (by decide) (fun c_5 => ?_) (fun c_5 => ?_)
              · skip
                refine lv_aload_n hx hb dX2_layNext_71 rfl (lv_at hl 1 rfl) ?_
                refine va_get (D := G) (ci := 2) (v := .ref qB2) (C := RX2) (T := TX2) (N := 9) hx hb hts (fun _ h => List.mem_cons_of_mem _ (List.mem_append_right _ h)) hown hK.1 hP 0 rfl rfl 2 (by decide) (hts (.fieldLink RX2 18 "TailorHouse$Table" "isLaid" "[Z") (List.mem_of_getElem? (i := 9) rfl)) (fun _ h9 => h9) rfl dX2_layNext_72 ?_
                refine lv_iload hx hb dX2_layNext_75 (lv_at hl 0 rfl) ?_
                refine lv_iconst (v := 1) hx hb dX2_layNext_77 (by decide) ?_
                refine kx_zastN hx hb hK.1 hP hD hS 3 rfl rfl (rfl) i (by omega) (by decide) dX2_layNext_78 (fun H locs hP hD hS => ?_)
                have hP : va_P G vwCl [(qB, .inr (2, [.ref qB0, .ref qB1, .ref qB2, .ref qB3, .ref qB4, .int (nI np), .int (nI ((kIt (kLF wn hn np wd ck rem dp tp rt tl zz) i (od, bo, le)).2.2)), .int (nI wd), .int (nI ck)])), (qB0, .inl (cI, 7, .inl (fun k => nI (wn k)))), (qB1, .inl (cI, 7, .inl (fun k => nI (hn k)))), (qB2, .inl (cZ, 7, .inl (upd zz i 1))), (qB3, .inl (cI, 7, .inl ((kIt (kLF wn hn np wd ck rem dp tp rt tl zz) i (od, bo, le)).1))), (qB4, .inl (cI, 7, .inl ((kIt (kLF wn hn np wd ck rem dp tp rt tl zz) i (od, bo, le)).2.1)))] H := hP
                have hD : va_D A [(qB, .inr (2, [.ref qB0, .ref qB1, .ref qB2, .ref qB3, .ref qB4, .int (nI np), .int (nI ((kIt (kLF wn hn np wd ck rem dp tp rt tl zz) i (od, bo, le)).2.2)), .int (nI wd), .int (nI ck)])), (qB0, .inl (cI, 7, .inl (fun k => nI (wn k)))), (qB1, .inl (cI, 7, .inl (fun k => nI (hn k)))), (qB2, .inl (cZ, 7, .inl (upd zz i 1))), (qB3, .inl (cI, 7, .inl ((kIt (kLF wn hn np wd ck rem dp tp rt tl zz) i (od, bo, le)).1))), (qB4, .inl (cI, 7, .inl ((kIt (kLF wn hn np wd ck rem dp tp rt tl zz) i (od, bo, le)).2.1)))] := hD
                refine lv_aload_n hx hb dX2_layNext_79 rfl (lv_at hl 1 rfl) ?_
                refine va_get (D := G) (ci := 2) (v := .ref qB3) (C := RX2) (T := TX2) (N := 9) hx hb hts (fun _ h => List.mem_cons_of_mem _ (List.mem_append_right _ h)) hown hK.1 hP 0 rfl rfl 3 (by decide) (hts (.fieldLink RX2 22 "TailorHouse$Table" "order" "[I") (List.mem_of_getElem? (i := 3) rfl)) (fun _ h9 => h9) rfl dX2_layNext_80 ?_
                refine lv_iload_n hx hb dX2_layNext_83 rfl (lv_at hl 2 rfl) ?_
                refine lv_iload hx hb dX2_layNext_84 (lv_at hl 0 rfl) ?_
                refine kx_iastN hx hb hK.1 hP hD hS 4 rfl rfl dp (by omega) (by decide) dX2_layNext_86 (fun H locs hP hD hS => ?_)
                have hP : va_P G vwCl [(qB, .inr (2, [.ref qB0, .ref qB1, .ref qB2, .ref qB3, .ref qB4, .int (nI np), .int (nI ((kIt (kLF wn hn np wd ck rem dp tp rt tl zz) i (od, bo, le)).2.2)), .int (nI wd), .int (nI ck)])), (qB0, .inl (cI, 7, .inl (fun k => nI (wn k)))), (qB1, .inl (cI, 7, .inl (fun k => nI (hn k)))), (qB2, .inl (cZ, 7, .inl (upd zz i 1))), (qB3, .inl (cI, 7, .inl (upd ((kIt (kLF wn hn np wd ck rem dp tp rt tl zz) i (od, bo, le)).1) dp (nI i)))), (qB4, .inl (cI, 7, .inl ((kIt (kLF wn hn np wd ck rem dp tp rt tl zz) i (od, bo, le)).2.1)))] H := hP
                have hD : va_D A [(qB, .inr (2, [.ref qB0, .ref qB1, .ref qB2, .ref qB3, .ref qB4, .int (nI np), .int (nI ((kIt (kLF wn hn np wd ck rem dp tp rt tl zz) i (od, bo, le)).2.2)), .int (nI wd), .int (nI ck)])), (qB0, .inl (cI, 7, .inl (fun k => nI (wn k)))), (qB1, .inl (cI, 7, .inl (fun k => nI (hn k)))), (qB2, .inl (cZ, 7, .inl (upd zz i 1))), (qB3, .inl (cI, 7, .inl (upd ((kIt (kLF wn hn np wd ck rem dp tp rt tl zz) i (od, bo, le)).1) dp (nI i)))), (qB4, .inl (cI, 7, .inl ((kIt (kLF wn hn np wd ck rem dp tp rt tl zz) i (od, bo, le)).2.1)))] := hD
                refine lv_iload_n hx hb dX2_layNext_87 rfl (lv_at hl 4 rfl) ?_
                refine lv_aload_n hx hb dX2_layNext_88 rfl (lv_at hl 1 rfl) ?_
                refine va_get (D := G) (ci := 2) (v := .ref qB0) (C := RX2) (T := TX2) (N := 9) hx hb hts (fun _ h => List.mem_cons_of_mem _ (List.mem_append_right _ h)) hown hK.1 hP 0 rfl rfl 0 (by decide) (hts (.fieldLink RX2 9 "TailorHouse$Table" "widths" "[I") (List.mem_of_getElem? (i := 10) rfl)) (fun _ h9 => h9) rfl dX2_layNext_89 ?_
                refine lv_iload hx hb dX2_layNext_92 (lv_at hl 0 rfl) ?_
                refine kx_ialdN hx hb hK.1 hP 1 rfl rfl i (by omega) (by decide) dX2_layNext_94 ?_
                refine kx_iaddN hx hb rt (wn i) dX2_layNext_95 ?_
                refine lv_aload_n hx hb dX2_layNext_96 rfl (lv_at hl 1 rfl) ?_
                refine va_get (D := G) (ci := 2) (v := .int (nI wd)) (C := RX2) (T := TX2) (N := 9) hx hb hts (fun _ h => List.mem_cons_of_mem _ (List.mem_append_right _ h)) hown hK.1 hP 0 rfl rfl 7 (by decide) (hts (.fieldLink RX2 35 "TailorHouse$Table" "width" "I") (List.mem_of_getElem? (i := 11) rfl)) (fun _ h9 => h9) rfl dX2_layNext_97 ?_
                refine kx_gtN hx hb (rt + (wn i)) wd (by omega) (by omega) (tgt := 135) dX2_layNext_100 (by decide) (fun c_6 => ?_) (fun c_6 => ?_)
                · skip
                  refine lv_aload_n hx hb dX2_layNext_135 rfl (lv_at hl 1 rfl) ?_
                  refine lv_iload_n hx hb dX2_layNext_136 rfl (lv_at hl 2 rfl) ?_
                  refine lv_iconst (v := 1) hx hb dX2_layNext_137 (by decide) ?_
                  refine kx_iaddN hx hb dp 1 dX2_layNext_138 ?_
                  refine lv_aload_n hx hb dX2_layNext_139 rfl (lv_at hl 1 rfl) ?_
                  refine lv_iload_n hx hb dX2_layNext_140 rfl (lv_at hl 3 rfl) ?_
                  refine lv_iload hx hb dX2_layNext_141 (lv_at hl 5 rfl) ?_
                  refine kx_iaddN hx hb tp tl dX2_layNext_143 ?_
                  refine kx_ri (va_runV (As := [.int (nI (tp + tl))]) (rest := [.int (nI (dp + 1)), .ref qB]) ⟨hx, hb, hml, hown, hts⟩ (c_X2_nextCheck l G cI cZ qB qB0 qB1 qB2 qB3 qB4 wn hn (upd zz i 1) (upd ((kIt (kLF wn hn np wd ck rem dp tp rt tl zz) i (od, bo, le)).1) dp (nI i)) ((kIt (kLF wn hn np wd ck rem dp tp rt tl zz) i (od, bo, le)).2.1) np ((kIt (kLF wn hn np wd ck rem dp tp rt tl zz) i (od, bo, le)).2.2) wd ck (tp + tl) (hck.1) (by omega)) (cwV 1 hts gX2_layNext_X2_nextCheck rfl rfl rfl (by decide +kernel) ⟨(by simp only [headSpec, rm_X2_layNext, rm_X2_nextCheck, rm_X5_divide]; omega), (by simp only [headSpec, rm_X2_layNext, rm_X2_nextCheck, rm_X5_divide]; omega)⟩) (kx_preR hK (kx_sub 0 6 hP rfl) 0 rfl rfl) rfl rfl hl.1 rfl (lv_room (Nat.le_of_ble_eq_true rfl)) dX2_layNext_144 ⟨Nat.zero_le _, Nat.zero_le _⟩) ?_
                  refine lv_aload_n hx hb dX2_layNext_147 rfl (lv_at hl 1 rfl) ?_
                  refine va_get (D := G) (ci := 2) (v := .ref qB0) (C := RX2) (T := TX2) (N := 9) hx hb hts (fun _ h => List.mem_cons_of_mem _ (List.mem_append_right _ h)) hown hK.1 hP 0 rfl rfl 0 (by decide) (hts (.fieldLink RX2 9 "TailorHouse$Table" "widths" "[I") (List.mem_of_getElem? (i := 10) rfl)) (fun _ h9 => h9) rfl dX2_layNext_148 ?_
                  refine lv_iload hx hb dX2_layNext_151 (lv_at hl 0 rfl) ?_
                  refine kx_ialdN hx hb hK.1 hP 1 rfl rfl i (by omega) (by decide) dX2_layNext_153 ?_
                  refine lv_aload_n hx hb dX2_layNext_154 rfl (lv_at hl 1 rfl) ?_
                  refine va_get (D := G) (ci := 2) (v := .ref qB1) (C := RX2) (T := TX2) (N := 9) hx hb hts (fun _ h => List.mem_cons_of_mem _ (List.mem_append_right _ h)) hown hK.1 hP 0 rfl rfl 1 (by decide) (hts (.fieldLink RX2 15 "TailorHouse$Table" "heights" "[I") (List.mem_of_getElem? (i := 12) rfl)) (fun _ h9 => h9) rfl dX2_layNext_155 ?_
                  refine lv_iload hx hb dX2_layNext_158 (lv_at hl 0 rfl) ?_
                  refine kx_ialdN hx hb hK.1 hP 2 rfl rfl i (by omega) (by decide) dX2_layNext_160 ?_
                  refine kx_wv (va_runV (As := [.int (nI (dp + 1)), .int (nI (kNC ck (tp + tl))), .int (nI (wn i)), .int (nI (hn i))]) (rest := []) ⟨hx, hb, hml, hown, hts⟩ (ih l G cI cZ qB qB0 qB1 qB2 qB3 qB4 wn hn (upd zz i 1) (upd ((kIt (kLF wn hn np wd ck rem dp tp rt tl zz) i (od, bo, le)).1) dp (nI i)) ((kIt (kLF wn hn np wd ck rem dp tp rt tl zz) i (od, bo, le)).2.1) np ((kIt (kLF wn hn np wd ck rem dp tp rt tl zz) i (od, bo, le)).2.2) wd ck H.size (dp + 1) (kNC ck (tp + tl)) (wn i) (hn i) (hnp) (by omega) (hw) (hh) (hwd) (hck) (by have h9 := kNC_le (e := tp + tl) hck.1; rw [Nat.succ_mul]; omega) (by omega) (by omega) (Nat.le_trans (kIt_le (kLF_le wn hn np wd ck rem dp tp rt tl zz) i _) hle)) (cwV 4 hts gX2_layNext_X2_layNext rfl rfl rfl (by decide +kernel) ⟨(by simp only [headSpec, rm_X2_layNext, rm_X2_nextCheck, rm_X5_divide]; omega), (by simp only [headSpec, rm_X2_layNext, rm_X2_nextCheck, rm_X5_divide]; omega)⟩) (kx_preW hK (kx_sub 0 6 hP rfl) (kx_subD 0 6 hD rfl) 0 rfl rfl) rfl rfl hl.1 rfl (lv_room (Nat.le_of_ble_eq_true rfl)) dX2_layNext_161 ⟨Nat.zero_le _, Nat.zero_le _⟩) hP hD hS hA 0 6 rfl (h_X2_layNext cI cZ qB qB0 qB1 qB2 qB3 qB4 wn hn (upd zz i 1) (upd ((kIt (kLF wn hn np wd ck rem dp tp rt tl zz) i (od, bo, le)).1) dp (nI i)) ((kIt (kLF wn hn np wd ck rem dp tp rt tl zz) i (od, bo, le)).2.1) np ((kIt (kLF wn hn np wd ck rem dp tp rt tl zz) i (od, bo, le)).2.2) wd ck) (fun u H locs hw_7 hP hD hS => ?_)
                  obtain ⟨od_7, bo_7, le_7⟩ := u
                  have hP : va_P G vwCl [(qB, .inr (2, [.ref qB0, .ref qB1, .ref qB2, .ref qB3, .ref qB4, .int (nI np), .int (nI le_7), .int (nI wd), .int (nI ck)])), (qB0, .inl (cI, 7, .inl (fun k => nI (wn k)))), (qB1, .inl (cI, 7, .inl (fun k => nI (hn k)))), (qB2, .inl (cZ, 7, .inl (upd zz i 1))), (qB3, .inl (cI, 7, .inl od_7)), (qB4, .inl (cI, 7, .inl bo_7))] H := hP
                  have hD : va_D A [(qB, .inr (2, [.ref qB0, .ref qB1, .ref qB2, .ref qB3, .ref qB4, .int (nI np), .int (nI le_7), .int (nI wd), .int (nI ck)])), (qB0, .inl (cI, 7, .inl (fun k => nI (wn k)))), (qB1, .inl (cI, 7, .inl (fun k => nI (hn k)))), (qB2, .inl (cZ, 7, .inl (upd zz i 1))), (qB3, .inl (cI, 7, .inl od_7)), (qB4, .inl (cI, 7, .inl bo_7))] := hD
                  have hw_7 : (kLN wn hn np wd ck rem (dp + 1) (kNC ck (tp + tl)) (wn i) (hn i) (upd zz i 1) ((upd ((kIt (kLF wn hn np wd ck rem dp tp rt tl zz) i (od, bo, le)).1) dp (nI i)), ((kIt (kLF wn hn np wd ck rem dp tp rt tl zz) i (od, bo, le)).2.1), ((kIt (kLF wn hn np wd ck rem dp tp rt tl zz) i (od, bo, le)).2.2))).1 = od_7 ∧ (kLN wn hn np wd ck rem (dp + 1) (kNC ck (tp + tl)) (wn i) (hn i) (upd zz i 1) ((upd ((kIt (kLF wn hn np wd ck rem dp tp rt tl zz) i (od, bo, le)).1) dp (nI i)), ((kIt (kLF wn hn np wd ck rem dp tp rt tl zz) i (od, bo, le)).2.1), ((kIt (kLF wn hn np wd ck rem dp tp rt tl zz) i (od, bo, le)).2.2))).2.1 = bo_7 ∧ (kLN wn hn np wd ck rem (dp + 1) (kNC ck (tp + tl)) (wn i) (hn i) (upd zz i 1) ((upd ((kIt (kLF wn hn np wd ck rem dp tp rt tl zz) i (od, bo, le)).1) dp (nI i)), ((kIt (kLF wn hn np wd ck rem dp tp rt tl zz) i (od, bo, le)).2.1), ((kIt (kLF wn hn np wd ck rem dp tp rt tl zz) i (od, bo, le)).2.2))).2.2 = le_7 := hw_7
                  obtain ⟨rfl, rfl, rfl⟩ := hw_7
                  refine lv_aload_n hx hb dX2_layNext_164 rfl (lv_at hl 1 rfl) ?_
                  refine va_get (D := G) (ci := 2) (v := .ref qB2) (C := RX2) (T := TX2) (N := 9) hx hb hts (fun _ h => List.mem_cons_of_mem _ (List.mem_append_right _ h)) hown hK.1 hP 0 rfl rfl 2 (by decide) (hts (.fieldLink RX2 18 "TailorHouse$Table" "isLaid" "[Z") (List.mem_of_getElem? (i := 9) rfl)) (fun _ h9 => h9) rfl dX2_layNext_165 ?_
                  refine lv_iload hx hb dX2_layNext_168 (lv_at hl 0 rfl) ?_
                  refine lv_iconst (v := 0) hx hb dX2_layNext_170 (by decide) ?_
                  refine kx_zastN hx hb hK.1 hP hD hS 3 rfl rfl (rfl) i (by omega) (by decide) dX2_layNext_171 (fun H locs hP hD hS => ?_)
                  have hP : va_P G vwCl [(qB, .inr (2, [.ref qB0, .ref qB1, .ref qB2, .ref qB3, .ref qB4, .int (nI np), .int (nI ((kLN wn hn np wd ck rem (dp + 1) (kNC ck (tp + tl)) (wn i) (hn i) (upd zz i 1) ((upd ((kIt (kLF wn hn np wd ck rem dp tp rt tl zz) i (od, bo, le)).1) dp (nI i)), ((kIt (kLF wn hn np wd ck rem dp tp rt tl zz) i (od, bo, le)).2.1), ((kIt (kLF wn hn np wd ck rem dp tp rt tl zz) i (od, bo, le)).2.2))).2.2)), .int (nI wd), .int (nI ck)])), (qB0, .inl (cI, 7, .inl (fun k => nI (wn k)))), (qB1, .inl (cI, 7, .inl (fun k => nI (hn k)))), (qB2, .inl (cZ, 7, .inl (upd (upd zz i 1) i 0))), (qB3, .inl (cI, 7, .inl ((kLN wn hn np wd ck rem (dp + 1) (kNC ck (tp + tl)) (wn i) (hn i) (upd zz i 1) ((upd ((kIt (kLF wn hn np wd ck rem dp tp rt tl zz) i (od, bo, le)).1) dp (nI i)), ((kIt (kLF wn hn np wd ck rem dp tp rt tl zz) i (od, bo, le)).2.1), ((kIt (kLF wn hn np wd ck rem dp tp rt tl zz) i (od, bo, le)).2.2))).1))), (qB4, .inl (cI, 7, .inl ((kLN wn hn np wd ck rem (dp + 1) (kNC ck (tp + tl)) (wn i) (hn i) (upd zz i 1) ((upd ((kIt (kLF wn hn np wd ck rem dp tp rt tl zz) i (od, bo, le)).1) dp (nI i)), ((kIt (kLF wn hn np wd ck rem dp tp rt tl zz) i (od, bo, le)).2.1), ((kIt (kLF wn hn np wd ck rem dp tp rt tl zz) i (od, bo, le)).2.2))).2.1)))] H := hP
                  have hD : va_D A [(qB, .inr (2, [.ref qB0, .ref qB1, .ref qB2, .ref qB3, .ref qB4, .int (nI np), .int (nI ((kLN wn hn np wd ck rem (dp + 1) (kNC ck (tp + tl)) (wn i) (hn i) (upd zz i 1) ((upd ((kIt (kLF wn hn np wd ck rem dp tp rt tl zz) i (od, bo, le)).1) dp (nI i)), ((kIt (kLF wn hn np wd ck rem dp tp rt tl zz) i (od, bo, le)).2.1), ((kIt (kLF wn hn np wd ck rem dp tp rt tl zz) i (od, bo, le)).2.2))).2.2)), .int (nI wd), .int (nI ck)])), (qB0, .inl (cI, 7, .inl (fun k => nI (wn k)))), (qB1, .inl (cI, 7, .inl (fun k => nI (hn k)))), (qB2, .inl (cZ, 7, .inl (upd (upd zz i 1) i 0))), (qB3, .inl (cI, 7, .inl ((kLN wn hn np wd ck rem (dp + 1) (kNC ck (tp + tl)) (wn i) (hn i) (upd zz i 1) ((upd ((kIt (kLF wn hn np wd ck rem dp tp rt tl zz) i (od, bo, le)).1) dp (nI i)), ((kIt (kLF wn hn np wd ck rem dp tp rt tl zz) i (od, bo, le)).2.1), ((kIt (kLF wn hn np wd ck rem dp tp rt tl zz) i (od, bo, le)).2.2))).1))), (qB4, .inl (cI, 7, .inl ((kLN wn hn np wd ck rem (dp + 1) (kNC ck (tp + tl)) (wn i) (hn i) (upd zz i 1) ((upd ((kIt (kLF wn hn np wd ck rem dp tp rt tl zz) i (od, bo, le)).1) dp (nI i)), ((kIt (kLF wn hn np wd ck rem dp tp rt tl zz) i (od, bo, le)).2.1), ((kIt (kLF wn hn np wd ck rem dp tp rt tl zz) i (od, bo, le)).2.2))).2.1)))] := hD
                  refine lv_iinc (v := nI (i + 1)) (lv' := [(5, .int (nI (i + 1))), (0, .ref qB), (1, .int (nI dp)), (2, .int (nI tp)), (3, .int (nI rt)), (4, .int (nI tl))]) hx hb dX2_layNext_172 hl (k := 0) rfl (nI_1 i) (by decide) rfl (fun ls hl => ?_)
                  refine lv_goto (tgt := 49) hx hb dX2_layNext_175 (by decide) ?_
                  exact ih_3 (i + 1) (i + 1) (upd (upd zz i 1) i 0) ((kLN wn hn np wd ck rem (dp + 1) (kNC ck (tp + tl)) (wn i) (hn i) (upd zz i 1) ((upd ((kIt (kLF wn hn np wd ck rem dp tp rt tl zz) i (od, bo, le)).1) dp (nI i)), ((kIt (kLF wn hn np wd ck rem dp tp rt tl zz) i (od, bo, le)).2.1), ((kIt (kLF wn hn np wd ck rem dp tp rt tl zz) i (od, bo, le)).2.2))).1) ((kLN wn hn np wd ck rem (dp + 1) (kNC ck (tp + tl)) (wn i) (hn i) (upd zz i 1) ((upd ((kIt (kLF wn hn np wd ck rem dp tp rt tl zz) i (od, bo, le)).1) dp (nI i)), ((kIt (kLF wn hn np wd ck rem dp tp rt tl zz) i (od, bo, le)).2.1), ((kIt (kLF wn hn np wd ck rem dp tp rt tl zz) i (od, bo, le)).2.2))).2.1) ((kLN wn hn np wd ck rem (dp + 1) (kNC ck (tp + tl)) (wn i) (hn i) (upd zz i 1) ((upd ((kIt (kLF wn hn np wd ck rem dp tp rt tl zz) i (od, bo, le)).1) dp (nI i)), ((kIt (kLF wn hn np wd ck rem dp tp rt tl zz) i (od, bo, le)).2.1), ((kIt (kLF wn hn np wd ck rem dp tp rt tl zz) i (od, bo, le)).2.2))).2.2) (by omega) rfl (by first | exact kx_uu0 (by assumption) | simp [kIt, kLF, c_4, Nat.not_le.mpr c_4, c_5, c_6, Nat.not_le.mpr c_6]) (by first | exact kx_uu0 (by assumption) | simp [kIt, kLF, c_4, Nat.not_le.mpr c_4, c_5, c_6, Nat.not_le.mpr c_6]) (by first | exact kx_uu0 (by assumption) | simp [kIt, kLF, c_4, Nat.not_le.mpr c_4, c_5, c_6, Nat.not_le.mpr c_6]) (by first | exact kx_uu0 (by assumption) | simp [kIt, kLF, c_4, Nat.not_le.mpr c_4, c_5, c_6, Nat.not_le.mpr c_6]) _ _ hP hD hS ls (lv_sub hl [0, 1, 2, 3, 4, 5] rfl) (by omega)
                · skip
                  refine lv_aload_n hx hb dX2_layNext_103 rfl (lv_at hl 1 rfl) ?_
                  refine lv_iload_n hx hb dX2_layNext_104 rfl (lv_at hl 2 rfl) ?_
                  refine lv_iconst (v := 1) hx hb dX2_layNext_105 (by decide) ?_
                  refine kx_iaddN hx hb dp 1 dX2_layNext_106 ?_
                  refine lv_iload_n hx hb dX2_layNext_107 rfl (lv_at hl 3 rfl) ?_
                  refine lv_iload_n hx hb dX2_layNext_108 rfl (lv_at hl 4 rfl) ?_
                  refine lv_aload_n hx hb dX2_layNext_109 rfl (lv_at hl 1 rfl) ?_
                  refine va_get (D := G) (ci := 2) (v := .ref qB0) (C := RX2) (T := TX2) (N := 9) hx hb hts (fun _ h => List.mem_cons_of_mem _ (List.mem_append_right _ h)) hown hK.1 hP 0 rfl rfl 0 (by decide) (hts (.fieldLink RX2 9 "TailorHouse$Table" "widths" "[I") (List.mem_of_getElem? (i := 10) rfl)) (fun _ h9 => h9) rfl dX2_layNext_110 ?_
                  refine lv_iload hx hb dX2_layNext_113 (lv_at hl 0 rfl) ?_
                  refine kx_ialdN hx hb hK.1 hP 1 rfl rfl i (by omega) (by decide) dX2_layNext_115 ?_
                  refine kx_iaddN hx hb rt (wn i) dX2_layNext_116 ?_
                  refine lv_iload hx hb dX2_layNext_117 (lv_at hl 5 rfl) ?_
                  refine lv_aload_n hx hb dX2_layNext_119 rfl (lv_at hl 1 rfl) ?_
                  refine va_get (D := G) (ci := 2) (v := .ref qB1) (C := RX2) (T := TX2) (N := 9) hx hb hts (fun _ h => List.mem_cons_of_mem _ (List.mem_append_right _ h)) hown hK.1 hP 0 rfl rfl 1 (by decide) (hts (.fieldLink RX2 15 "TailorHouse$Table" "heights" "[I") (List.mem_of_getElem? (i := 12) rfl)) (fun _ h9 => h9) rfl dX2_layNext_120 ?_
                  refine lv_iload hx hb dX2_layNext_123 (lv_at hl 0 rfl) ?_
                  refine kx_ialdN hx hb hK.1 hP 2 rfl rfl i (by omega) (by decide) dX2_layNext_125 ?_
                  refine va_mmax hx hb (by rw [hml]; exact hl.1.symm) hown (hts (.methodLink RX2 62 Lib.Math.max.name) (List.mem_of_getElem? (i := 13) rfl)) (hts (.static Lib.Math.max.name) (List.mem_of_getElem? (i := 14) rfl)) (hts (.initialized "java/lang/Math") (List.mem_of_getElem? (i := 15) rfl)) (hts (.code Lib.Math.max.name Lib.Math.max.code 2 (some .int)) (List.mem_of_getElem? (i := 16) rfl)) (by simp only [headSpec, rm_X2_layNext, rm_X2_nextCheck, rm_X5_divide]; omega) (Nat.le_trans (m := 40) (Nat.le_of_ble_eq_true rfl) (by simp only [headSpec, rm_X2_layNext, rm_X2_nextCheck, rm_X5_divide]; omega)) (Nat.zero_le _) (Nat.zero_le _) dX2_layNext_126 ?_
                  refine kx_top (y := nI (max tl (hn i))) (kx_maxN (by omega) (by omega)) ?_
                  refine kx_wv (va_runV (As := [.int (nI (dp + 1)), .int (nI tp), .int (nI (rt + (wn i))), .int (nI (max tl (hn i)))]) (rest := []) ⟨hx, hb, hml, hown, hts⟩ (ih l G cI cZ qB qB0 qB1 qB2 qB3 qB4 wn hn (upd zz i 1) (upd ((kIt (kLF wn hn np wd ck rem dp tp rt tl zz) i (od, bo, le)).1) dp (nI i)) ((kIt (kLF wn hn np wd ck rem dp tp rt tl zz) i (od, bo, le)).2.1) np ((kIt (kLF wn hn np wd ck rem dp tp rt tl zz) i (od, bo, le)).2.2) wd ck H.size (dp + 1) tp (rt + (wn i)) (max tl (hn i)) (hnp) (by omega) (hw) (hh) (hwd) (hck) (Nat.le_trans htp (Nat.mul_le_mul_right 3000500 (Nat.le_succ dp))) (by omega) (by omega) (Nat.le_trans (kIt_le (kLF_le wn hn np wd ck rem dp tp rt tl zz) i _) hle)) (cwV 4 hts gX2_layNext_X2_layNext rfl rfl rfl (by decide +kernel) ⟨(by simp only [headSpec, rm_X2_layNext, rm_X2_nextCheck, rm_X5_divide]; omega), (by simp only [headSpec, rm_X2_layNext, rm_X2_nextCheck, rm_X5_divide]; omega)⟩) (kx_preW hK (kx_sub 0 6 hP rfl) (kx_subD 0 6 hD rfl) 0 rfl rfl) rfl rfl hl.1 rfl (lv_room (Nat.le_of_ble_eq_true rfl)) dX2_layNext_129 ⟨Nat.zero_le _, Nat.zero_le _⟩) hP hD hS hA 0 6 rfl (h_X2_layNext cI cZ qB qB0 qB1 qB2 qB3 qB4 wn hn (upd zz i 1) (upd ((kIt (kLF wn hn np wd ck rem dp tp rt tl zz) i (od, bo, le)).1) dp (nI i)) ((kIt (kLF wn hn np wd ck rem dp tp rt tl zz) i (od, bo, le)).2.1) np ((kIt (kLF wn hn np wd ck rem dp tp rt tl zz) i (od, bo, le)).2.2) wd ck) (fun u H locs hw_8 hP hD hS => ?_)
                  obtain ⟨od_8, bo_8, le_8⟩ := u
                  have hP : va_P G vwCl [(qB, .inr (2, [.ref qB0, .ref qB1, .ref qB2, .ref qB3, .ref qB4, .int (nI np), .int (nI le_8), .int (nI wd), .int (nI ck)])), (qB0, .inl (cI, 7, .inl (fun k => nI (wn k)))), (qB1, .inl (cI, 7, .inl (fun k => nI (hn k)))), (qB2, .inl (cZ, 7, .inl (upd zz i 1))), (qB3, .inl (cI, 7, .inl od_8)), (qB4, .inl (cI, 7, .inl bo_8))] H := hP
                  have hD : va_D A [(qB, .inr (2, [.ref qB0, .ref qB1, .ref qB2, .ref qB3, .ref qB4, .int (nI np), .int (nI le_8), .int (nI wd), .int (nI ck)])), (qB0, .inl (cI, 7, .inl (fun k => nI (wn k)))), (qB1, .inl (cI, 7, .inl (fun k => nI (hn k)))), (qB2, .inl (cZ, 7, .inl (upd zz i 1))), (qB3, .inl (cI, 7, .inl od_8)), (qB4, .inl (cI, 7, .inl bo_8))] := hD
                  have hw_8 : (kLN wn hn np wd ck rem (dp + 1) tp (rt + (wn i)) (max tl (hn i)) (upd zz i 1) ((upd ((kIt (kLF wn hn np wd ck rem dp tp rt tl zz) i (od, bo, le)).1) dp (nI i)), ((kIt (kLF wn hn np wd ck rem dp tp rt tl zz) i (od, bo, le)).2.1), ((kIt (kLF wn hn np wd ck rem dp tp rt tl zz) i (od, bo, le)).2.2))).1 = od_8 ∧ (kLN wn hn np wd ck rem (dp + 1) tp (rt + (wn i)) (max tl (hn i)) (upd zz i 1) ((upd ((kIt (kLF wn hn np wd ck rem dp tp rt tl zz) i (od, bo, le)).1) dp (nI i)), ((kIt (kLF wn hn np wd ck rem dp tp rt tl zz) i (od, bo, le)).2.1), ((kIt (kLF wn hn np wd ck rem dp tp rt tl zz) i (od, bo, le)).2.2))).2.1 = bo_8 ∧ (kLN wn hn np wd ck rem (dp + 1) tp (rt + (wn i)) (max tl (hn i)) (upd zz i 1) ((upd ((kIt (kLF wn hn np wd ck rem dp tp rt tl zz) i (od, bo, le)).1) dp (nI i)), ((kIt (kLF wn hn np wd ck rem dp tp rt tl zz) i (od, bo, le)).2.1), ((kIt (kLF wn hn np wd ck rem dp tp rt tl zz) i (od, bo, le)).2.2))).2.2 = le_8 := hw_8
                  obtain ⟨rfl, rfl, rfl⟩ := hw_8
                  refine lv_goto (tgt := 164) hx hb dX2_layNext_132 (by decide) ?_
                  refine lv_aload_n hx hb dX2_layNext_164 rfl (lv_at hl 1 rfl) ?_
                  refine va_get (D := G) (ci := 2) (v := .ref qB2) (C := RX2) (T := TX2) (N := 9) hx hb hts (fun _ h => List.mem_cons_of_mem _ (List.mem_append_right _ h)) hown hK.1 hP 0 rfl rfl 2 (by decide) (hts (.fieldLink RX2 18 "TailorHouse$Table" "isLaid" "[Z") (List.mem_of_getElem? (i := 9) rfl)) (fun _ h9 => h9) rfl dX2_layNext_165 ?_
                  refine lv_iload hx hb dX2_layNext_168 (lv_at hl 0 rfl) ?_
                  refine lv_iconst (v := 0) hx hb dX2_layNext_170 (by decide) ?_
                  refine kx_zastN hx hb hK.1 hP hD hS 3 rfl rfl (rfl) i (by omega) (by decide) dX2_layNext_171 (fun H locs hP hD hS => ?_)
                  have hP : va_P G vwCl [(qB, .inr (2, [.ref qB0, .ref qB1, .ref qB2, .ref qB3, .ref qB4, .int (nI np), .int (nI ((kLN wn hn np wd ck rem (dp + 1) tp (rt + (wn i)) (max tl (hn i)) (upd zz i 1) ((upd ((kIt (kLF wn hn np wd ck rem dp tp rt tl zz) i (od, bo, le)).1) dp (nI i)), ((kIt (kLF wn hn np wd ck rem dp tp rt tl zz) i (od, bo, le)).2.1), ((kIt (kLF wn hn np wd ck rem dp tp rt tl zz) i (od, bo, le)).2.2))).2.2)), .int (nI wd), .int (nI ck)])), (qB0, .inl (cI, 7, .inl (fun k => nI (wn k)))), (qB1, .inl (cI, 7, .inl (fun k => nI (hn k)))), (qB2, .inl (cZ, 7, .inl (upd (upd zz i 1) i 0))), (qB3, .inl (cI, 7, .inl ((kLN wn hn np wd ck rem (dp + 1) tp (rt + (wn i)) (max tl (hn i)) (upd zz i 1) ((upd ((kIt (kLF wn hn np wd ck rem dp tp rt tl zz) i (od, bo, le)).1) dp (nI i)), ((kIt (kLF wn hn np wd ck rem dp tp rt tl zz) i (od, bo, le)).2.1), ((kIt (kLF wn hn np wd ck rem dp tp rt tl zz) i (od, bo, le)).2.2))).1))), (qB4, .inl (cI, 7, .inl ((kLN wn hn np wd ck rem (dp + 1) tp (rt + (wn i)) (max tl (hn i)) (upd zz i 1) ((upd ((kIt (kLF wn hn np wd ck rem dp tp rt tl zz) i (od, bo, le)).1) dp (nI i)), ((kIt (kLF wn hn np wd ck rem dp tp rt tl zz) i (od, bo, le)).2.1), ((kIt (kLF wn hn np wd ck rem dp tp rt tl zz) i (od, bo, le)).2.2))).2.1)))] H := hP
                  have hD : va_D A [(qB, .inr (2, [.ref qB0, .ref qB1, .ref qB2, .ref qB3, .ref qB4, .int (nI np), .int (nI ((kLN wn hn np wd ck rem (dp + 1) tp (rt + (wn i)) (max tl (hn i)) (upd zz i 1) ((upd ((kIt (kLF wn hn np wd ck rem dp tp rt tl zz) i (od, bo, le)).1) dp (nI i)), ((kIt (kLF wn hn np wd ck rem dp tp rt tl zz) i (od, bo, le)).2.1), ((kIt (kLF wn hn np wd ck rem dp tp rt tl zz) i (od, bo, le)).2.2))).2.2)), .int (nI wd), .int (nI ck)])), (qB0, .inl (cI, 7, .inl (fun k => nI (wn k)))), (qB1, .inl (cI, 7, .inl (fun k => nI (hn k)))), (qB2, .inl (cZ, 7, .inl (upd (upd zz i 1) i 0))), (qB3, .inl (cI, 7, .inl ((kLN wn hn np wd ck rem (dp + 1) tp (rt + (wn i)) (max tl (hn i)) (upd zz i 1) ((upd ((kIt (kLF wn hn np wd ck rem dp tp rt tl zz) i (od, bo, le)).1) dp (nI i)), ((kIt (kLF wn hn np wd ck rem dp tp rt tl zz) i (od, bo, le)).2.1), ((kIt (kLF wn hn np wd ck rem dp tp rt tl zz) i (od, bo, le)).2.2))).1))), (qB4, .inl (cI, 7, .inl ((kLN wn hn np wd ck rem (dp + 1) tp (rt + (wn i)) (max tl (hn i)) (upd zz i 1) ((upd ((kIt (kLF wn hn np wd ck rem dp tp rt tl zz) i (od, bo, le)).1) dp (nI i)), ((kIt (kLF wn hn np wd ck rem dp tp rt tl zz) i (od, bo, le)).2.1), ((kIt (kLF wn hn np wd ck rem dp tp rt tl zz) i (od, bo, le)).2.2))).2.1)))] := hD
                  refine lv_iinc (v := nI (i + 1)) (lv' := [(5, .int (nI (i + 1))), (0, .ref qB), (1, .int (nI dp)), (2, .int (nI tp)), (3, .int (nI rt)), (4, .int (nI tl))]) hx hb dX2_layNext_172 hl (k := 0) rfl (nI_1 i) (by decide) rfl (fun ls hl => ?_)
                  refine lv_goto (tgt := 49) hx hb dX2_layNext_175 (by decide) ?_
                  exact ih_3 (i + 1) (i + 1) (upd (upd zz i 1) i 0) ((kLN wn hn np wd ck rem (dp + 1) tp (rt + (wn i)) (max tl (hn i)) (upd zz i 1) ((upd ((kIt (kLF wn hn np wd ck rem dp tp rt tl zz) i (od, bo, le)).1) dp (nI i)), ((kIt (kLF wn hn np wd ck rem dp tp rt tl zz) i (od, bo, le)).2.1), ((kIt (kLF wn hn np wd ck rem dp tp rt tl zz) i (od, bo, le)).2.2))).1) ((kLN wn hn np wd ck rem (dp + 1) tp (rt + (wn i)) (max tl (hn i)) (upd zz i 1) ((upd ((kIt (kLF wn hn np wd ck rem dp tp rt tl zz) i (od, bo, le)).1) dp (nI i)), ((kIt (kLF wn hn np wd ck rem dp tp rt tl zz) i (od, bo, le)).2.1), ((kIt (kLF wn hn np wd ck rem dp tp rt tl zz) i (od, bo, le)).2.2))).2.1) ((kLN wn hn np wd ck rem (dp + 1) tp (rt + (wn i)) (max tl (hn i)) (upd zz i 1) ((upd ((kIt (kLF wn hn np wd ck rem dp tp rt tl zz) i (od, bo, le)).1) dp (nI i)), ((kIt (kLF wn hn np wd ck rem dp tp rt tl zz) i (od, bo, le)).2.1), ((kIt (kLF wn hn np wd ck rem dp tp rt tl zz) i (od, bo, le)).2.2))).2.2) (by omega) rfl (by first | exact kx_uu0 (by assumption) | simp [kIt, kLF, c_4, Nat.not_le.mpr c_4, c_5, c_6, Nat.not_lt.mpr c_6]) (by first | exact kx_uu0 (by assumption) | simp [kIt, kLF, c_4, Nat.not_le.mpr c_4, c_5, c_6, Nat.not_lt.mpr c_6]) (by first | exact kx_uu0 (by assumption) | simp [kIt, kLF, c_4, Nat.not_le.mpr c_4, c_5, c_6, Nat.not_lt.mpr c_6]) (by first | exact kx_uu0 (by assumption) | simp [kIt, kLF, c_4, Nat.not_le.mpr c_4, c_5, c_6, Nat.not_lt.mpr c_6]) _ _ hP hD hS ls (lv_sub hl [0, 1, 2, 3, 4, 5] rfl) (by omega)
              · skip
                refine lv_goto (tgt := 172) hx hb dX2_layNext_68 (by decide) ?_
                refine lv_iinc (v := nI (i + 1)) (lv' := [(5, .int (nI (i + 1))), (0, .ref qB), (1, .int (nI dp)), (2, .int (nI tp)), (3, .int (nI rt)), (4, .int (nI tl))]) hx hb dX2_layNext_172 hl (k := 0) rfl (nI_1 i) (by decide) rfl (fun ls hl => ?_)
                refine lv_goto (tgt := 49) hx hb dX2_layNext_175 (by decide) ?_
                exact ih_3 (i + 1) (i + 1) zz ((kIt (kLF wn hn np wd ck rem dp tp rt tl zz) i (od, bo, le)).1) ((kIt (kLF wn hn np wd ck rem dp tp rt tl zz) i (od, bo, le)).2.1) ((kIt (kLF wn hn np wd ck rem dp tp rt tl zz) i (od, bo, le)).2.2) (by omega) rfl rfl (by first | exact kx_uu0 (by assumption) | simp [kIt, kLF, c_4, Nat.not_le.mpr c_4, c_5]) (by first | exact kx_uu0 (by assumption) | simp [kIt, kLF, c_4, Nat.not_le.mpr c_4, c_5]) (by first | exact kx_uu0 (by assumption) | simp [kIt, kLF, c_4, Nat.not_le.mpr c_4, c_5]) _ _ hP hD hS ls (lv_sub hl [0, 1, 2, 3, 4, 5] rfl) (by omega)
        exact lab_49_3 ((np - 0) + 1) 0 0 zz od bo le (by omega) rfl rfl (rfl) (rfl) (rfl) _ _ hP hD hS ls (lv_sub hl [0, 1, 2, 3, 4, 5] rfl) (Nat.lt_succ_self _)
      · exact absurd c_2 (by omega)
    · skip
      exact W.vret hx hb hr (fun t ht hW => ⟨⟨(od, bo, le), rfl, by simp [kLN_succ, c_1, Nat.not_lt.mpr c_1], by (show va_P G vwCl _ t.heap; rw [ht]; exact hP)⟩, hS.F ht⟩) hS.2.2 dX2_layNext_11 hlocks
theorem h_X2_layLeast (cI cZ : ClassId) (qB : Nat) (qB0 : Nat) (qB1 : Nat) (qB2 : Nat) (qB3 : Nat) (qB4 : Nat) (wn : Nat → Nat) (hn : Nat → Nat) (zz : Nat → Int32) (od : Nat → Int32) (bo : Nat → Int32) (np : Nat) (le : Nat) (wd : Nat) (ck : Nat) (qD : Nat) (qP1 : Nat) (qP2 : Nat) (qP3 : Nat) (sn : Nat → Nat) (cor : Nat → Int32) (jn : Nat → Nat) (pcs : Nat) (sms : Nat) (hT : Nat) (qD1 : Nat) (qD2 : Nat) (qD3 : Nat) (qD4 : Nat) (qD5 : Nat) (qD6 : Nat) (qD7 : Nat) (qD8 : Nat) (kd : Nat → Int32) (ba : Nat → Int32) (ot : Nat → Int32) (aa : Nat → Int32) (bb : Nat → Int32) (bm : Nat → Int32) (xx : Nat → Int32) (yy : Nat → Int32) (pts : Nat) (qP : Nat) : ∀ u, (((fun u : (Nat → Nat) × (Nat → Nat) × (Nat → Int32) × (Nat → Int32) × (Nat → Int32) × Nat × Nat => [(qD, .inr (0, [.ref hT, .ref qD1, .ref qD2, .ref qD3, .ref qD4, .ref qD5, .ref qD6, .ref qD7, .ref qD8, .int (nI pts)])), (qD1, .inl (cI, 20, .inl kd)), (qD2, .inl (cI, 20, .inl ba)), (qD3, .inl (cI, 20, .inl ot)), (qD4, .inl (cI, 20, .inl aa)), (qD5, .inl (cI, 20, .inl bb)), (qD6, .inl (cI, 6, .inl bm)), (qD7, .inl (cI, 20, .inl xx)), (qD8, .inl (cI, 20, .inl yy)), (qP, .inr (1, [.ref qD, .ref qP1, .ref qP2, .ref qP3, .int (nI pcs), .int (nI sms)])), (qP1, .inl (cI, 7, .inl (fun k => nI (sn k)))), (qP2, .inl (cI, 56, .inl cor)), (qP3, .inl (cI, 40, .inl (fun k => nI (jn k)))), (qB, .inr (2, [.ref qB0, .ref qB1, .ref qB2, .ref qB3, .ref qB4, .int (nI u.2.2.2.2.2.1), .int (nI u.2.2.2.2.2.2), .int (nI wd), .int (nI ck)])), (qB0, .inl (cI, 7, .inl (fun k => nI (u.1 k)))), (qB1, .inl (cI, 7, .inl (fun k => nI (u.2.1 k)))), (qB2, .inl (cZ, 7, .inl u.2.2.1)), (qB3, .inl (cI, 7, .inl u.2.2.2.1)), (qB4, .inl (cI, 7, .inl u.2.2.2.2.1))]) : ((Nat → Nat) × (Nat → Nat) × (Nat → Int32) × (Nat → Int32) × (Nat → Int32) × Nat × Nat) → va_W) u).map Prod.fst = ([(qD, .inr (0, [.ref hT, .ref qD1, .ref qD2, .ref qD3, .ref qD4, .ref qD5, .ref qD6, .ref qD7, .ref qD8, .int (nI pts)])), (qD1, .inl (cI, 20, .inl kd)), (qD2, .inl (cI, 20, .inl ba)), (qD3, .inl (cI, 20, .inl ot)), (qD4, .inl (cI, 20, .inl aa)), (qD5, .inl (cI, 20, .inl bb)), (qD6, .inl (cI, 6, .inl bm)), (qD7, .inl (cI, 20, .inl xx)), (qD8, .inl (cI, 20, .inl yy)), (qP, .inr (1, [.ref qD, .ref qP1, .ref qP2, .ref qP3, .int (nI pcs), .int (nI sms)])), (qP1, .inl (cI, 7, .inl (fun k => nI (sn k)))), (qP2, .inl (cI, 56, .inl cor)), (qP3, .inl (cI, 40, .inl (fun k => nI (jn k)))), (qB, .inr (2, [.ref qB0, .ref qB1, .ref qB2, .ref qB3, .ref qB4, .int (nI np), .int (nI le), .int (nI wd), .int (nI ck)])), (qB0, .inl (cI, 7, .inl (fun k => nI (wn k)))), (qB1, .inl (cI, 7, .inl (fun k => nI (hn k)))), (qB2, .inl (cZ, 7, .inl zz)), (qB3, .inl (cI, 7, .inl od)), (qB4, .inl (cI, 7, .inl bo))] : va_W).map Prod.fst := fun _ => rfl
abbrev rm_X2_layLeast : Room := { frames := 11, cells := 0, slots := 0, locals := 280 }
set_option maxHeartbeats 4000000 in
set_option maxRecDepth 100000 in
theorem c_X2_layLeast (l : Launch) (G : va_G) (cI cZ : ClassId) (qB : Nat) (qB0 : Nat) (qB1 : Nat) (qB2 : Nat) (qB3 : Nat) (qB4 : Nat) (wn : Nat → Nat) (hn : Nat → Nat) (zz : Nat → Int32) (od : Nat → Int32) (bo : Nat → Int32) (np : Nat) (le : Nat) (wd : Nat) (ck : Nat) (qD : Nat) (qP1 : Nat) (qP2 : Nat) (qP3 : Nat) (sn : Nat → Nat) (cor : Nat → Int32) (jn : Nat → Nat) (pcs : Nat) (sms : Nat) (hT : Nat) (qD1 : Nat) (qD2 : Nat) (qD3 : Nat) (qD4 : Nat) (qD5 : Nat) (qD6 : Nat) (qD7 : Nat) (qD8 : Nat) (kd : Nat → Int32) (ba : Nat → Int32) (ot : Nat → Int32) (aa : Nat → Int32) (bb : Nat → Int32) (bm : Nat → Int32) (xx : Nat → Int32) (yy : Nat → Int32) (pts : Nat) (sz : Nat) (qP : Nat) (hpc : pcs ≤ 7) (hs8 : ∀ k, k < pcs → sn k ≤ 8) (hco : ∀ k i, k < pcs → i < sn k → vp_in (cor (k * 8 + i)) 20) (hs1 : ∀ k, k < pcs → 0 < sn k) (hhr : ∀ k, k < pcs → (kRoom yy cor sn k).toNatClampNeg ≤ 3000000) (hwd : wd ≤ 5000) (hck : 1 ≤ ck ∧ ck ≤ 500) : Met l yX2_layLeast wsX2_layLeast rm_X2_layLeast (kx_Pw G cI cZ [(qD, .inr (0, [.ref hT, .ref qD1, .ref qD2, .ref qD3, .ref qD4, .ref qD5, .ref qD6, .ref qD7, .ref qD8, .int (nI pts)])), (qD1, .inl (cI, 20, .inl kd)), (qD2, .inl (cI, 20, .inl ba)), (qD3, .inl (cI, 20, .inl ot)), (qD4, .inl (cI, 20, .inl aa)), (qD5, .inl (cI, 20, .inl bb)), (qD6, .inl (cI, 6, .inl bm)), (qD7, .inl (cI, 20, .inl xx)), (qD8, .inl (cI, 20, .inl yy)), (qP, .inr (1, [.ref qD, .ref qP1, .ref qP2, .ref qP3, .int (nI pcs), .int (nI sms)])), (qP1, .inl (cI, 7, .inl (fun k => nI (sn k)))), (qP2, .inl (cI, 56, .inl cor)), (qP3, .inl (cI, 40, .inl (fun k => nI (jn k)))), (qB, .inr (2, [.ref qB0, .ref qB1, .ref qB2, .ref qB3, .ref qB4, .int (nI np), .int (nI le), .int (nI wd), .int (nI ck)])), (qB0, .inl (cI, 7, .inl (fun k => nI (wn k)))), (qB1, .inl (cI, 7, .inl (fun k => nI (hn k)))), (qB2, .inl (cZ, 7, .inl zz)), (qB3, .inl (cI, 7, .inl od)), (qB4, .inl (cI, 7, .inl bo))] sz [.ref qB, .ref qP]) (va_Qi (fun (r : Int32) (u : (Nat → Nat) × (Nat → Nat) × (Nat → Int32) × (Nat → Int32) × (Nat → Int32) × Nat × Nat) => if (∀ k, k < pcs → (kRoom xx cor sn k).toNatClampNeg ≤ wd) then r = nI u.2.2.2.2.2.2 ∧ (u.2.2.2.1, u.2.2.2.2.1, u.2.2.2.2.2.2) = kLay xx yy cor sn pcs wd ck od bo else r = -1) (fun u t => va_P G vwCl ((fun u : (Nat → Nat) × (Nat → Nat) × (Nat → Int32) × (Nat → Int32) × (Nat → Int32) × Nat × Nat => [(qD, .inr (0, [.ref hT, .ref qD1, .ref qD2, .ref qD3, .ref qD4, .ref qD5, .ref qD6, .ref qD7, .ref qD8, .int (nI pts)])), (qD1, .inl (cI, 20, .inl kd)), (qD2, .inl (cI, 20, .inl ba)), (qD3, .inl (cI, 20, .inl ot)), (qD4, .inl (cI, 20, .inl aa)), (qD5, .inl (cI, 20, .inl bb)), (qD6, .inl (cI, 6, .inl bm)), (qD7, .inl (cI, 20, .inl xx)), (qD8, .inl (cI, 20, .inl yy)), (qP, .inr (1, [.ref qD, .ref qP1, .ref qP2, .ref qP3, .int (nI pcs), .int (nI sms)])), (qP1, .inl (cI, 7, .inl (fun k => nI (sn k)))), (qP2, .inl (cI, 56, .inl cor)), (qP3, .inl (cI, 40, .inl (fun k => nI (jn k)))), (qB, .inr (2, [.ref qB0, .ref qB1, .ref qB2, .ref qB3, .ref qB4, .int (nI u.2.2.2.2.2.1), .int (nI u.2.2.2.2.2.2), .int (nI wd), .int (nI ck)])), (qB0, .inl (cI, 7, .inl (fun k => nI (u.1 k)))), (qB1, .inl (cI, 7, .inl (fun k => nI (u.2.1 k)))), (qB2, .inl (cZ, 7, .inl u.2.2.1)), (qB3, .inl (cI, 7, .inl u.2.2.2.1)), (qB4, .inl (cI, 7, .inl u.2.2.2.2.1))]) u) t.heap) (va_A [(qD, .inr (0, [.ref hT, .ref qD1, .ref qD2, .ref qD3, .ref qD4, .ref qD5, .ref qD6, .ref qD7, .ref qD8, .int (nI pts)])), (qD1, .inl (cI, 20, .inl kd)), (qD2, .inl (cI, 20, .inl ba)), (qD3, .inl (cI, 20, .inl ot)), (qD4, .inl (cI, 20, .inl aa)), (qD5, .inl (cI, 20, .inl bb)), (qD6, .inl (cI, 6, .inl bm)), (qD7, .inl (cI, 20, .inl xx)), (qD8, .inl (cI, 20, .inl yy)), (qP, .inr (1, [.ref qD, .ref qP1, .ref qP2, .ref qP3, .int (nI pcs), .int (nI sms)])), (qP1, .inl (cI, 7, .inl (fun k => nI (sn k)))), (qP2, .inl (cI, 56, .inl cor)), (qP3, .inl (cI, 40, .inl (fun k => nI (jn k)))), (qB, .inr (2, [.ref qB0, .ref qB1, .ref qB2, .ref qB3, .ref qB4, .int (nI np), .int (nI le), .int (nI wd), .int (nI ck)])), (qB0, .inl (cI, 7, .inl (fun k => nI (wn k)))), (qB1, .inl (cI, 7, .inl (fun k => nI (hn k)))), (qB2, .inl (cZ, 7, .inl zz)), (qB3, .inl (cI, 7, .inl od)), (qB4, .inl (cI, 7, .inl bo))] sz)) 0 0 (va_A [(qD, .inr (0, [.ref hT, .ref qD1, .ref qD2, .ref qD3, .ref qD4, .ref qD5, .ref qD6, .ref qD7, .ref qD8, .int (nI pts)])), (qD1, .inl (cI, 20, .inl kd)), (qD2, .inl (cI, 20, .inl ba)), (qD3, .inl (cI, 20, .inl ot)), (qD4, .inl (cI, 20, .inl aa)), (qD5, .inl (cI, 20, .inl bb)), (qD6, .inl (cI, 6, .inl bm)), (qD7, .inl (cI, 20, .inl xx)), (qD8, .inl (cI, 20, .inl yy)), (qP, .inr (1, [.ref qD, .ref qP1, .ref qP2, .ref qP3, .int (nI pcs), .int (nI sms)])), (qP1, .inl (cI, 7, .inl (fun k => nI (sn k)))), (qP2, .inl (cI, 56, .inl cor)), (qP3, .inl (cI, 40, .inl (fun k => nI (jn k)))), (qB, .inr (2, [.ref qB0, .ref qB1, .ref qB2, .ref qB3, .ref qB4, .int (nI np), .int (nI le), .int (nI wd), .int (nI ck)])), (qB0, .inl (cI, 7, .inl (fun k => nI (wn k)))), (qB1, .inl (cI, 7, .inl (fun k => nI (hn k)))), (qB2, .inl (cZ, 7, .inl zz)), (qB3, .inl (cI, 7, .inl od)), (qB4, .inl (cI, 7, .inl bo))] sz) := by
  refine Met.ofW (cc := cX2_layLeast) (maxL := 3) (ret := (some .int)) (by decide) rfl ?_
  intro p e s m args below meth c s₁ B hml hv
  obtain ⟨rfl, hsz, hP, hD0, hK⟩ := hv
  have hx := B.exec
  have hb := B.bytes
  have hr := B.returns
  have hts := atoms_spec (ws := wsX2_layLeast) B.pre
  have hown : s.vm.findClass RX2 = some m.cls := findClass_of_methodNamed B.named
  have hlocks := B.notSynchronized
  subst hsz
  have hD := hD0.self (sz := s.heap.size)
  generalize hAe : va_A [(qD, .inr (0, [.ref hT, .ref qD1, .ref qD2, .ref qD3, .ref qD4, .ref qD5, .ref qD6, .ref qD7, .ref qD8, .int (nI pts)])), (qD1, .inl (cI, 20, .inl kd)), (qD2, .inl (cI, 20, .inl ba)), (qD3, .inl (cI, 20, .inl ot)), (qD4, .inl (cI, 20, .inl aa)), (qD5, .inl (cI, 20, .inl bb)), (qD6, .inl (cI, 6, .inl bm)), (qD7, .inl (cI, 20, .inl xx)), (qD8, .inl (cI, 20, .inl yy)), (qP, .inr (1, [.ref qD, .ref qP1, .ref qP2, .ref qP3, .int (nI pcs), .int (nI sms)])), (qP1, .inl (cI, 7, .inl (fun k => nI (sn k)))), (qP2, .inl (cI, 56, .inl cor)), (qP3, .inl (cI, 40, .inl (fun k => nI (jn k)))), (qB, .inr (2, [.ref qB0, .ref qB1, .ref qB2, .ref qB3, .ref qB4, .int (nI np), .int (nI le), .int (nI wd), .int (nI ck)])), (qB0, .inl (cI, 7, .inl (fun k => nI (wn k)))), (qB1, .inl (cI, 7, .inl (fun k => nI (hn k)))), (qB2, .inl (cZ, 7, .inl zz)), (qB3, .inl (cI, 7, .inl od)), (qB4, .inl (cI, 7, .inl bo))] s.heap.size = A at hD ⊢
  have hA : ∀ q : Nat, s.heap.size ≤ q → A q := fun q h => by rw [← hAe]; exact Or.inr h
  have hS : va_S A s.heap s.heap [] := va_S.rf
  have hl := lv_entry ([.ref qB, .ref qP]) (n := 3) (Nat.le_of_ble_eq_true rfl)
  rw [lg_entry_eq]
  generalize (lg_sl ([.ref qB, .ref qP]) ++ List.replicate (3 - (lg_sl ([.ref qB, .ref qP])).length) Slot.unset).toArray = ls at hl ⊢
  have hl : lv_has ls 3 [(0, .ref qB), (1, .ref qP)] := hl
  refine lv_aload_n hx hb dX2_layLeast_0 rfl (lv_at hl 0 rfl) ?_
  refine lv_aload_n hx hb dX2_layLeast_1 rfl (lv_at hl 1 rfl) ?_
  refine va_getN (D := G) (ci := 1) (v := .int (nI pcs)) (C := RX1) (T := TX1) (N := 6) hx hb hts (fun _ h => List.mem_cons_of_mem _ (List.mem_append_left _ (List.mem_append_left _ (List.mem_append_right _ h)))) hown hK.1 hP 9 rfl rfl 4 (by decide) (va_Nw.use rfl (hK.2 _ (List.mem_of_getElem? (i := 6) rfl))) (fun _ h9 => h9) rfl dX2_layLeast_2 ?_
  refine va_put (D := G) (ci := 2) (v := .int (nI pcs)) (ty := .int) (C := RX2) (T := TX2) (N := 9) hx hb hts (fun _ h => List.mem_cons_of_mem _ (List.mem_append_left _ (List.mem_append_right _ h))) tyX2 tyX2_ok nmX2 hown hK.1 hP hD hS 13 rfl rfl 5 (by decide) (hts (.fieldLink RX2 28 "TailorHouse$Table" "pieces" "I") (List.mem_of_getElem? (i := 1) rfl)) (fun _ h9 => h9) rfl (by decide +kernel) rfl rfl (Nat.le_of_ble_eq_true rfl) dX2_layLeast_5 (fun H locs hP hD hS => ?_)
  have hP : va_P G vwCl [(qD, .inr (0, [.ref hT, .ref qD1, .ref qD2, .ref qD3, .ref qD4, .ref qD5, .ref qD6, .ref qD7, .ref qD8, .int (nI pts)])), (qD1, .inl (cI, 20, .inl kd)), (qD2, .inl (cI, 20, .inl ba)), (qD3, .inl (cI, 20, .inl ot)), (qD4, .inl (cI, 20, .inl aa)), (qD5, .inl (cI, 20, .inl bb)), (qD6, .inl (cI, 6, .inl bm)), (qD7, .inl (cI, 20, .inl xx)), (qD8, .inl (cI, 20, .inl yy)), (qP, .inr (1, [.ref qD, .ref qP1, .ref qP2, .ref qP3, .int (nI pcs), .int (nI sms)])), (qP1, .inl (cI, 7, .inl (fun k => nI (sn k)))), (qP2, .inl (cI, 56, .inl cor)), (qP3, .inl (cI, 40, .inl (fun k => nI (jn k)))), (qB, .inr (2, [.ref qB0, .ref qB1, .ref qB2, .ref qB3, .ref qB4, .int (nI pcs), .int (nI le), .int (nI wd), .int (nI ck)])), (qB0, .inl (cI, 7, .inl (fun k => nI (wn k)))), (qB1, .inl (cI, 7, .inl (fun k => nI (hn k)))), (qB2, .inl (cZ, 7, .inl zz)), (qB3, .inl (cI, 7, .inl od)), (qB4, .inl (cI, 7, .inl bo))] H := hP
  have hD : va_D A [(qD, .inr (0, [.ref hT, .ref qD1, .ref qD2, .ref qD3, .ref qD4, .ref qD5, .ref qD6, .ref qD7, .ref qD8, .int (nI pts)])), (qD1, .inl (cI, 20, .inl kd)), (qD2, .inl (cI, 20, .inl ba)), (qD3, .inl (cI, 20, .inl ot)), (qD4, .inl (cI, 20, .inl aa)), (qD5, .inl (cI, 20, .inl bb)), (qD6, .inl (cI, 6, .inl bm)), (qD7, .inl (cI, 20, .inl xx)), (qD8, .inl (cI, 20, .inl yy)), (qP, .inr (1, [.ref qD, .ref qP1, .ref qP2, .ref qP3, .int (nI pcs), .int (nI sms)])), (qP1, .inl (cI, 7, .inl (fun k => nI (sn k)))), (qP2, .inl (cI, 56, .inl cor)), (qP3, .inl (cI, 40, .inl (fun k => nI (jn k)))), (qB, .inr (2, [.ref qB0, .ref qB1, .ref qB2, .ref qB3, .ref qB4, .int (nI pcs), .int (nI le), .int (nI wd), .int (nI ck)])), (qB0, .inl (cI, 7, .inl (fun k => nI (wn k)))), (qB1, .inl (cI, 7, .inl (fun k => nI (hn k)))), (qB2, .inl (cZ, 7, .inl zz)), (qB3, .inl (cI, 7, .inl od)), (qB4, .inl (cI, 7, .inl bo))] := hD
  refine lv_iconst (v := 0) hx hb dX2_layLeast_8 (by decide) ?_
  refine lv_istore_n (lv' := [(2, .int 0), (0, .ref qB), (1, .ref qP)]) hx hb dX2_layLeast_9 rfl hl (by decide) rfl (fun ls hl => ?_)
  have lab_10_1 : ∀ (nn_1 : Nat) (i : Nat) (z1_0 : Nat) (z1_1 : Nat → Int32) (z1_2 : Nat → Int32) (z1_3 : Nat → Int32) (hi : i ≤ pcs) (hf : ∀ k, k < i → (kRoom xx cor sn k).toNatClampNeg ≤ wd) (ez1_0 : i = z1_0) (ez1_1 : (fun k => nI (kWn xx cor sn wn i k)) = z1_1) (ez1_2 : (fun k => nI (kWn yy cor sn hn i k)) = z1_2) (ez1_3 : (kZ zz i) = z1_3) (H : Heap) (locs : List Loc) (hP : va_P G vwCl [(qD, .inr (0, [.ref hT, .ref qD1, .ref qD2, .ref qD3, .ref qD4, .ref qD5, .ref qD6, .ref qD7, .ref qD8, .int (nI pts)])), (qD1, .inl (cI, 20, .inl kd)), (qD2, .inl (cI, 20, .inl ba)), (qD3, .inl (cI, 20, .inl ot)), (qD4, .inl (cI, 20, .inl aa)), (qD5, .inl (cI, 20, .inl bb)), (qD6, .inl (cI, 6, .inl bm)), (qD7, .inl (cI, 20, .inl xx)), (qD8, .inl (cI, 20, .inl yy)), (qP, .inr (1, [.ref qD, .ref qP1, .ref qP2, .ref qP3, .int (nI pcs), .int (nI sms)])), (qP1, .inl (cI, 7, .inl (fun k => nI (sn k)))), (qP2, .inl (cI, 56, .inl cor)), (qP3, .inl (cI, 40, .inl (fun k => nI (jn k)))), (qB, .inr (2, [.ref qB0, .ref qB1, .ref qB2, .ref qB3, .ref qB4, .int (nI pcs), .int (nI le), .int (nI wd), .int (nI ck)])), (qB0, .inl (cI, 7, .inl z1_1)), (qB1, .inl (cI, 7, .inl z1_2)), (qB2, .inl (cZ, 7, .inl z1_3)), (qB3, .inl (cI, 7, .inl od)), (qB4, .inl (cI, 7, .inl bo))] H) (hD : va_D A [(qD, .inr (0, [.ref hT, .ref qD1, .ref qD2, .ref qD3, .ref qD4, .ref qD5, .ref qD6, .ref qD7, .ref qD8, .int (nI pts)])), (qD1, .inl (cI, 20, .inl kd)), (qD2, .inl (cI, 20, .inl ba)), (qD3, .inl (cI, 20, .inl ot)), (qD4, .inl (cI, 20, .inl aa)), (qD5, .inl (cI, 20, .inl bb)), (qD6, .inl (cI, 6, .inl bm)), (qD7, .inl (cI, 20, .inl xx)), (qD8, .inl (cI, 20, .inl yy)), (qP, .inr (1, [.ref qD, .ref qP1, .ref qP2, .ref qP3, .int (nI pcs), .int (nI sms)])), (qP1, .inl (cI, 7, .inl (fun k => nI (sn k)))), (qP2, .inl (cI, 56, .inl cor)), (qP3, .inl (cI, 40, .inl (fun k => nI (jn k)))), (qB, .inr (2, [.ref qB0, .ref qB1, .ref qB2, .ref qB3, .ref qB4, .int (nI pcs), .int (nI le), .int (nI wd), .int (nI ck)])), (qB0, .inl (cI, 7, .inl z1_1)), (qB1, .inl (cI, 7, .inl z1_2)), (qB2, .inl (cZ, 7, .inl z1_3)), (qB3, .inl (cI, 7, .inl od)), (qB4, .inl (cI, 7, .inl bo))]) (hS : va_S A s.heap H locs) (ls : Array Slot) (hl : lv_has ls 3 [(2, .int (nI z1_0)), (0, .ref qB), (1, .ref qP)]), (pcs - i) < nn_1 → W p l e (headSpec wsX2_layLeast rm_X2_layLeast).room s m ([.ref qB, .ref qP] : List Value).toArray below meth c H locs 0 0 (MQ below (va_Qi (fun (r : Int32) (u : (Nat → Nat) × (Nat → Nat) × (Nat → Int32) × (Nat → Int32) × (Nat → Int32) × Nat × Nat) => if (∀ k, k < pcs → (kRoom xx cor sn k).toNatClampNeg ≤ wd) then r = nI u.2.2.2.2.2.2 ∧ (u.2.2.2.1, u.2.2.2.2.1, u.2.2.2.2.2.2) = kLay xx yy cor sn pcs wd ck od bo else r = -1) (fun u t => va_P G vwCl ((fun u : (Nat → Nat) × (Nat → Nat) × (Nat → Int32) × (Nat → Int32) × (Nat → Int32) × Nat × Nat => [(qD, .inr (0, [.ref hT, .ref qD1, .ref qD2, .ref qD3, .ref qD4, .ref qD5, .ref qD6, .ref qD7, .ref qD8, .int (nI pts)])), (qD1, .inl (cI, 20, .inl kd)), (qD2, .inl (cI, 20, .inl ba)), (qD3, .inl (cI, 20, .inl ot)), (qD4, .inl (cI, 20, .inl aa)), (qD5, .inl (cI, 20, .inl bb)), (qD6, .inl (cI, 6, .inl bm)), (qD7, .inl (cI, 20, .inl xx)), (qD8, .inl (cI, 20, .inl yy)), (qP, .inr (1, [.ref qD, .ref qP1, .ref qP2, .ref qP3, .int (nI pcs), .int (nI sms)])), (qP1, .inl (cI, 7, .inl (fun k => nI (sn k)))), (qP2, .inl (cI, 56, .inl cor)), (qP3, .inl (cI, 40, .inl (fun k => nI (jn k)))), (qB, .inr (2, [.ref qB0, .ref qB1, .ref qB2, .ref qB3, .ref qB4, .int (nI u.2.2.2.2.2.1), .int (nI u.2.2.2.2.2.2), .int (nI wd), .int (nI ck)])), (qB0, .inl (cI, 7, .inl (fun k => nI (u.1 k)))), (qB1, .inl (cI, 7, .inl (fun k => nI (u.2.1 k)))), (qB2, .inl (cZ, 7, .inl u.2.2.1)), (qB3, .inl (cI, 7, .inl u.2.2.2.1)), (qB4, .inl (cI, 7, .inl u.2.2.2.2.1))]) u) t.heap) A) ([.ref qB, .ref qP] : List Value).toArray s 0 0 A) (F0 m 10 ls []) := by
    intro nn_1
    induction nn_1 with
    | zero => intro i z1_0 z1_1 z1_2 z1_3 hi hf ez1_0 ez1_1 ez1_2 ez1_3 H locs hP hD hS ls hl hn; exact absurd hn (Nat.not_lt_zero _)
    | succ nn_1 ih_1 =>
      intro i z1_0 z1_1 z1_2 z1_3 hi hf ez1_0 ez1_1 ez1_2 ez1_3 H locs hP hD hS ls hl hn_1
      subst ez1_0
      subst ez1_1
      subst ez1_2
      subst ez1_3
      refine lv_iload_n hx hb dX2_layLeast_10 rfl (lv_at hl 0 rfl) ?_
      refine lv_aload_n hx hb dX2_layLeast_11 rfl (lv_at hl 1 rfl) ?_
      refine va_get (D := G) (ci := 2) (v := .int (nI pcs)) (C := RX2) (T := TX2) (N := 9) hx hb hts (fun _ h => List.mem_cons_of_mem _ (List.mem_append_left _ (List.mem_append_right _ h))) hown hK.1 hP 13 rfl rfl 5 (by decide) (hts (.fieldLink RX2 28 "TailorHouse$Table" "pieces" "I") (List.mem_of_getElem? (i := 1) rfl)) (fun _ h9 => h9) rfl dX2_layLeast_12 ?_
      refine kx_geN hx hb i pcs (by omega) (by omega) (tgt := 68) dX2_layLeast_15 (by decide) (fun c_2 => ?_) (fun c_2 => ?_)
      · skip
        have hE : pcs = i := by omega
        subst hE
        refine lv_aload_n hx hb dX2_layLeast_68 rfl (lv_at hl 1 rfl) ?_
        refine lv_ldc (v := 2000000000) hx hb hown (hts (.constant RX2 51 (2000000000)) (List.mem_of_getElem? (i := 6) rfl)) dX2_layLeast_69 ?_
        refine va_put (D := G) (ci := 2) (v := .int 2000000000) (ty := .int) (C := RX2) (T := TX2) (N := 9) hx hb hts (fun _ h => List.mem_cons_of_mem _ (List.mem_append_left _ (List.mem_append_right _ h))) tyX2 tyX2_ok nmX2 hown hK.1 hP hD hS 13 rfl rfl 6 (by decide) (hts (.fieldLink RX2 32 "TailorHouse$Table" "leastEnd" "I") (List.mem_of_getElem? (i := 7) rfl)) (fun _ h9 => h9) rfl (by decide +kernel) rfl rfl (Nat.le_of_ble_eq_true rfl) dX2_layLeast_71 (fun H locs hP hD hS => ?_)
        have hP : va_P G vwCl [(qD, .inr (0, [.ref hT, .ref qD1, .ref qD2, .ref qD3, .ref qD4, .ref qD5, .ref qD6, .ref qD7, .ref qD8, .int (nI pts)])), (qD1, .inl (cI, 20, .inl kd)), (qD2, .inl (cI, 20, .inl ba)), (qD3, .inl (cI, 20, .inl ot)), (qD4, .inl (cI, 20, .inl aa)), (qD5, .inl (cI, 20, .inl bb)), (qD6, .inl (cI, 6, .inl bm)), (qD7, .inl (cI, 20, .inl xx)), (qD8, .inl (cI, 20, .inl yy)), (qP, .inr (1, [.ref qD, .ref qP1, .ref qP2, .ref qP3, .int (nI pcs), .int (nI sms)])), (qP1, .inl (cI, 7, .inl (fun k => nI (sn k)))), (qP2, .inl (cI, 56, .inl cor)), (qP3, .inl (cI, 40, .inl (fun k => nI (jn k)))), (qB, .inr (2, [.ref qB0, .ref qB1, .ref qB2, .ref qB3, .ref qB4, .int (nI pcs), .int 2000000000, .int (nI wd), .int (nI ck)])), (qB0, .inl (cI, 7, .inl (fun k => nI (kWn xx cor sn wn pcs k)))), (qB1, .inl (cI, 7, .inl (fun k => nI (kWn yy cor sn hn pcs k)))), (qB2, .inl (cZ, 7, .inl (kZ zz pcs))), (qB3, .inl (cI, 7, .inl od)), (qB4, .inl (cI, 7, .inl bo))] H := hP
        have hD : va_D A [(qD, .inr (0, [.ref hT, .ref qD1, .ref qD2, .ref qD3, .ref qD4, .ref qD5, .ref qD6, .ref qD7, .ref qD8, .int (nI pts)])), (qD1, .inl (cI, 20, .inl kd)), (qD2, .inl (cI, 20, .inl ba)), (qD3, .inl (cI, 20, .inl ot)), (qD4, .inl (cI, 20, .inl aa)), (qD5, .inl (cI, 20, .inl bb)), (qD6, .inl (cI, 6, .inl bm)), (qD7, .inl (cI, 20, .inl xx)), (qD8, .inl (cI, 20, .inl yy)), (qP, .inr (1, [.ref qD, .ref qP1, .ref qP2, .ref qP3, .int (nI pcs), .int (nI sms)])), (qP1, .inl (cI, 7, .inl (fun k => nI (sn k)))), (qP2, .inl (cI, 56, .inl cor)), (qP3, .inl (cI, 40, .inl (fun k => nI (jn k)))), (qB, .inr (2, [.ref qB0, .ref qB1, .ref qB2, .ref qB3, .ref qB4, .int (nI pcs), .int 2000000000, .int (nI wd), .int (nI ck)])), (qB0, .inl (cI, 7, .inl (fun k => nI (kWn xx cor sn wn pcs k)))), (qB1, .inl (cI, 7, .inl (fun k => nI (kWn yy cor sn hn pcs k)))), (qB2, .inl (cZ, 7, .inl (kZ zz pcs))), (qB3, .inl (cI, 7, .inl od)), (qB4, .inl (cI, 7, .inl bo))] := hD
        refine lv_aload_n hx hb dX2_layLeast_74 rfl (lv_at hl 1 rfl) ?_
        refine lv_iconst (v := 0) hx hb dX2_layLeast_75 (by decide) ?_
        refine lv_iconst (v := 0) hx hb dX2_layLeast_76 (by decide) ?_
        refine lv_iconst (v := 0) hx hb dX2_layLeast_77 (by decide) ?_
        refine lv_iconst (v := 0) hx hb dX2_layLeast_78 (by decide) ?_
        refine kx_wv (va_runV (As := [.int 0, .int 0, .int 0, .int 0]) (rest := []) ⟨hx, hb, hml, hown, hts⟩ (c_X2_layNext pcs l G cI cZ qB qB0 qB1 qB2 qB3 qB4 (kWn xx cor sn wn pcs) (kWn yy cor sn hn pcs) (kZ zz pcs) od bo pcs 2000000000 wd ck H.size 0 0 0 0 (hpc) (by omega) (fun k hk => by rw [kWn_lt _ _ _ _ hk]; exact Nat.le_trans (hf k hk) hwd) (fun k hk => by rw [kWn_lt _ _ _ _ hk]; exact hhr k hk) (hwd) (hck) (by omega) (by omega) (by omega) (by omega)) (cwV 4 hts gX2_layLeast_X2_layNext rfl rfl rfl (by decide +kernel) ⟨(by simp only [headSpec, rm_X2_layNext, rm_X2_layLeast]; omega), (by simp only [headSpec, rm_X2_layNext, rm_X2_layLeast]; omega)⟩) (kx_preW hK (kx_sub 13 6 hP rfl) (kx_subD 13 6 hD rfl) 0 rfl rfl) rfl rfl hl.1 rfl (lv_room (Nat.le_of_ble_eq_true rfl)) dX2_layLeast_79 ⟨Nat.zero_le _, Nat.zero_le _⟩) hP hD hS hA 13 6 rfl (h_X2_layNext cI cZ qB qB0 qB1 qB2 qB3 qB4 (kWn xx cor sn wn pcs) (kWn yy cor sn hn pcs) (kZ zz pcs) od bo pcs 2000000000 wd ck) (fun u H locs hw_3 hP hD hS => ?_)
        obtain ⟨od_3, bo_3, le_3⟩ := u
        have hP : va_P G vwCl [(qD, .inr (0, [.ref hT, .ref qD1, .ref qD2, .ref qD3, .ref qD4, .ref qD5, .ref qD6, .ref qD7, .ref qD8, .int (nI pts)])), (qD1, .inl (cI, 20, .inl kd)), (qD2, .inl (cI, 20, .inl ba)), (qD3, .inl (cI, 20, .inl ot)), (qD4, .inl (cI, 20, .inl aa)), (qD5, .inl (cI, 20, .inl bb)), (qD6, .inl (cI, 6, .inl bm)), (qD7, .inl (cI, 20, .inl xx)), (qD8, .inl (cI, 20, .inl yy)), (qP, .inr (1, [.ref qD, .ref qP1, .ref qP2, .ref qP3, .int (nI pcs), .int (nI sms)])), (qP1, .inl (cI, 7, .inl (fun k => nI (sn k)))), (qP2, .inl (cI, 56, .inl cor)), (qP3, .inl (cI, 40, .inl (fun k => nI (jn k)))), (qB, .inr (2, [.ref qB0, .ref qB1, .ref qB2, .ref qB3, .ref qB4, .int (nI pcs), .int (nI le_3), .int (nI wd), .int (nI ck)])), (qB0, .inl (cI, 7, .inl (fun k => nI ((kWn xx cor sn wn pcs) k)))), (qB1, .inl (cI, 7, .inl (fun k => nI ((kWn yy cor sn hn pcs) k)))), (qB2, .inl (cZ, 7, .inl (kZ zz pcs))), (qB3, .inl (cI, 7, .inl od_3)), (qB4, .inl (cI, 7, .inl bo_3))] H := hP
        have hD : va_D A [(qD, .inr (0, [.ref hT, .ref qD1, .ref qD2, .ref qD3, .ref qD4, .ref qD5, .ref qD6, .ref qD7, .ref qD8, .int (nI pts)])), (qD1, .inl (cI, 20, .inl kd)), (qD2, .inl (cI, 20, .inl ba)), (qD3, .inl (cI, 20, .inl ot)), (qD4, .inl (cI, 20, .inl aa)), (qD5, .inl (cI, 20, .inl bb)), (qD6, .inl (cI, 6, .inl bm)), (qD7, .inl (cI, 20, .inl xx)), (qD8, .inl (cI, 20, .inl yy)), (qP, .inr (1, [.ref qD, .ref qP1, .ref qP2, .ref qP3, .int (nI pcs), .int (nI sms)])), (qP1, .inl (cI, 7, .inl (fun k => nI (sn k)))), (qP2, .inl (cI, 56, .inl cor)), (qP3, .inl (cI, 40, .inl (fun k => nI (jn k)))), (qB, .inr (2, [.ref qB0, .ref qB1, .ref qB2, .ref qB3, .ref qB4, .int (nI pcs), .int (nI le_3), .int (nI wd), .int (nI ck)])), (qB0, .inl (cI, 7, .inl (fun k => nI ((kWn xx cor sn wn pcs) k)))), (qB1, .inl (cI, 7, .inl (fun k => nI ((kWn yy cor sn hn pcs) k)))), (qB2, .inl (cZ, 7, .inl (kZ zz pcs))), (qB3, .inl (cI, 7, .inl od_3)), (qB4, .inl (cI, 7, .inl bo_3))] := hD
        have hw_3 : (kLN (kWn xx cor sn wn pcs) (kWn yy cor sn hn pcs) pcs wd ck pcs 0 0 0 0 (kZ zz pcs) (od, bo, 2000000000)).1 = od_3 ∧ (kLN (kWn xx cor sn wn pcs) (kWn yy cor sn hn pcs) pcs wd ck pcs 0 0 0 0 (kZ zz pcs) (od, bo, 2000000000)).2.1 = bo_3 ∧ (kLN (kWn xx cor sn wn pcs) (kWn yy cor sn hn pcs) pcs wd ck pcs 0 0 0 0 (kZ zz pcs) (od, bo, 2000000000)).2.2 = le_3 := hw_3
        obtain ⟨rfl, rfl, rfl⟩ := hw_3
        refine lv_aload_n hx hb dX2_layLeast_82 rfl (lv_at hl 1 rfl) ?_
        refine va_get (D := G) (ci := 2) (v := .int (nI ((kLN (kWn xx cor sn wn pcs) (kWn yy cor sn hn pcs) pcs wd ck pcs 0 0 0 0 (kZ zz pcs) (od, bo, 2000000000)).2.2))) (C := RX2) (T := TX2) (N := 9) hx hb hts (fun _ h => List.mem_cons_of_mem _ (List.mem_append_left _ (List.mem_append_right _ h))) hown hK.1 hP 13 rfl rfl 6 (by decide) (hts (.fieldLink RX2 32 "TailorHouse$Table" "leastEnd" "I") (List.mem_of_getElem? (i := 7) rfl)) (fun _ h9 => h9) rfl dX2_layLeast_83 ?_
        exact W.iret (v := (nI ((kLN (kWn xx cor sn wn pcs) (kWn yy cor sn hn pcs) pcs wd ck pcs 0 0 0 0 (kZ zz pcs) (od, bo, 2000000000)).2.2))) hx hb hr (fun t ht hW => ⟨⟨(nI ((kLN (kWn xx cor sn wn pcs) (kWn yy cor sn hn pcs) pcs wd ck pcs 0 0 0 0 (kZ zz pcs) (od, bo, 2000000000)).2.2)), ((kWn xx cor sn wn pcs), (kWn yy cor sn hn pcs), (kZ zz pcs), ((kLN (kWn xx cor sn wn pcs) (kWn yy cor sn hn pcs) pcs wd ck pcs 0 0 0 0 (kZ zz pcs) (od, bo, 2000000000)).1), ((kLN (kWn xx cor sn wn pcs) (kWn yy cor sn hn pcs) pcs wd ck pcs 0 0 0 0 (kZ zz pcs) (od, bo, 2000000000)).2.1), pcs, ((kLN (kWn xx cor sn wn pcs) (kWn yy cor sn hn pcs) pcs wd ck pcs 0 0 0 0 (kZ zz pcs) (od, bo, 2000000000)).2.2)), rfl, by show ite _ _ _; rw [if_pos hf]; refine ⟨rfl, ?_⟩; rw [kLN_wn (kWn_lt xx cor sn wn) (kWn_lt yy cor sn hn), kLN_z _ _ _ _ _ (kZ zz pcs) (fun _ => 0) _ (fun k hk => kZ_0 zz hk)]; rfl, by (show va_P G vwCl _ t.heap; rw [ht]; exact hP)⟩, hS.F ht⟩) hS.2.2 dX2_layLeast_86 hlocks
      · skip
        refine lv_aload_n hx hb dX2_layLeast_18 rfl (lv_at hl 1 rfl) ?_
        refine va_get (D := G) (ci := 2) (v := .ref qB0) (C := RX2) (T := TX2) (N := 9) hx hb hts (fun _ h => List.mem_cons_of_mem _ (List.mem_append_left _ (List.mem_append_right _ h))) hown hK.1 hP 13 rfl rfl 0 (by decide) (hts (.fieldLink RX2 9 "TailorHouse$Table" "widths" "[I") (List.mem_of_getElem? (i := 2) rfl)) (fun _ h9 => h9) rfl dX2_layLeast_19 ?_
        refine lv_iload_n hx hb dX2_layLeast_22 rfl (lv_at hl 0 rfl) ?_
        refine lv_aload_n hx hb dX2_layLeast_23 rfl (lv_at hl 2 rfl) ?_
        refine lv_iload_n hx hb dX2_layLeast_24 rfl (lv_at hl 0 rfl) ?_
        refine kx_ri (va_runV (As := [.int (nI i)]) (rest := [.int (nI i), .ref qB0]) ⟨hx, hb, hml, hown, hts⟩ (c_X1_roomRight l G cI cZ qP qD qP1 qP2 qP3 sn cor jn pcs sms hT qD1 qD2 qD3 qD4 qD5 qD6 qD7 qD8 kd ba ot aa bb bm xx yy pts i (by first | assumption | omega) (by first | assumption | omega) (by first | assumption | omega) (by omega) (hs1 i (by omega))) (cwV 1 hts gX2_layLeast_X1_roomRight rfl rfl rfl (by decide +kernel) ⟨(Nat.le_of_ble_eq_true rfl), (Nat.le_of_ble_eq_true rfl)⟩) (kx_preR hK (kx_sub 0 13 hP rfl) 9 rfl rfl) rfl rfl hl.1 rfl (lv_room (Nat.le_of_ble_eq_true rfl)) dX2_layLeast_25 ⟨Nat.zero_le _, Nat.zero_le _⟩) ?_
        refine kx_iastN hx hb hK.1 hP hD hS 14 rfl rfl i (by omega) (by decide) dX2_layLeast_28 (fun H locs hP hD hS => ?_)
        have hP : va_P G vwCl [(qD, .inr (0, [.ref hT, .ref qD1, .ref qD2, .ref qD3, .ref qD4, .ref qD5, .ref qD6, .ref qD7, .ref qD8, .int (nI pts)])), (qD1, .inl (cI, 20, .inl kd)), (qD2, .inl (cI, 20, .inl ba)), (qD3, .inl (cI, 20, .inl ot)), (qD4, .inl (cI, 20, .inl aa)), (qD5, .inl (cI, 20, .inl bb)), (qD6, .inl (cI, 6, .inl bm)), (qD7, .inl (cI, 20, .inl xx)), (qD8, .inl (cI, 20, .inl yy)), (qP, .inr (1, [.ref qD, .ref qP1, .ref qP2, .ref qP3, .int (nI pcs), .int (nI sms)])), (qP1, .inl (cI, 7, .inl (fun k => nI (sn k)))), (qP2, .inl (cI, 56, .inl cor)), (qP3, .inl (cI, 40, .inl (fun k => nI (jn k)))), (qB, .inr (2, [.ref qB0, .ref qB1, .ref qB2, .ref qB3, .ref qB4, .int (nI pcs), .int (nI le), .int (nI wd), .int (nI ck)])), (qB0, .inl (cI, 7, .inl (upd (fun k => nI (kWn xx cor sn wn i k)) i (kRoom xx cor sn i)))), (qB1, .inl (cI, 7, .inl (fun k => nI (kWn yy cor sn hn i k)))), (qB2, .inl (cZ, 7, .inl (kZ zz i))), (qB3, .inl (cI, 7, .inl od)), (qB4, .inl (cI, 7, .inl bo))] H := hP
        have hD : va_D A [(qD, .inr (0, [.ref hT, .ref qD1, .ref qD2, .ref qD3, .ref qD4, .ref qD5, .ref qD6, .ref qD7, .ref qD8, .int (nI pts)])), (qD1, .inl (cI, 20, .inl kd)), (qD2, .inl (cI, 20, .inl ba)), (qD3, .inl (cI, 20, .inl ot)), (qD4, .inl (cI, 20, .inl aa)), (qD5, .inl (cI, 20, .inl bb)), (qD6, .inl (cI, 6, .inl bm)), (qD7, .inl (cI, 20, .inl xx)), (qD8, .inl (cI, 20, .inl yy)), (qP, .inr (1, [.ref qD, .ref qP1, .ref qP2, .ref qP3, .int (nI pcs), .int (nI sms)])), (qP1, .inl (cI, 7, .inl (fun k => nI (sn k)))), (qP2, .inl (cI, 56, .inl cor)), (qP3, .inl (cI, 40, .inl (fun k => nI (jn k)))), (qB, .inr (2, [.ref qB0, .ref qB1, .ref qB2, .ref qB3, .ref qB4, .int (nI pcs), .int (nI le), .int (nI wd), .int (nI ck)])), (qB0, .inl (cI, 7, .inl (upd (fun k => nI (kWn xx cor sn wn i k)) i (kRoom xx cor sn i)))), (qB1, .inl (cI, 7, .inl (fun k => nI (kWn yy cor sn hn i k)))), (qB2, .inl (cZ, 7, .inl (kZ zz i))), (qB3, .inl (cI, 7, .inl od)), (qB4, .inl (cI, 7, .inl bo))] := hD
        rw [← kWn_s xx cor sn wn i] at hP hD
        have hP : va_P G vwCl [(qD, .inr (0, [.ref hT, .ref qD1, .ref qD2, .ref qD3, .ref qD4, .ref qD5, .ref qD6, .ref qD7, .ref qD8, .int (nI pts)])), (qD1, .inl (cI, 20, .inl kd)), (qD2, .inl (cI, 20, .inl ba)), (qD3, .inl (cI, 20, .inl ot)), (qD4, .inl (cI, 20, .inl aa)), (qD5, .inl (cI, 20, .inl bb)), (qD6, .inl (cI, 6, .inl bm)), (qD7, .inl (cI, 20, .inl xx)), (qD8, .inl (cI, 20, .inl yy)), (qP, .inr (1, [.ref qD, .ref qP1, .ref qP2, .ref qP3, .int (nI pcs), .int (nI sms)])), (qP1, .inl (cI, 7, .inl (fun k => nI (sn k)))), (qP2, .inl (cI, 56, .inl cor)), (qP3, .inl (cI, 40, .inl (fun k => nI (jn k)))), (qB, .inr (2, [.ref qB0, .ref qB1, .ref qB2, .ref qB3, .ref qB4, .int (nI pcs), .int (nI le), .int (nI wd), .int (nI ck)])), (qB0, .inl (cI, 7, .inl (fun k => nI (kWn xx cor sn wn (i + 1) k)))), (qB1, .inl (cI, 7, .inl (fun k => nI (kWn yy cor sn hn i k)))), (qB2, .inl (cZ, 7, .inl (kZ zz i))), (qB3, .inl (cI, 7, .inl od)), (qB4, .inl (cI, 7, .inl bo))] H := hP
        have hD : va_D A [(qD, .inr (0, [.ref hT, .ref qD1, .ref qD2, .ref qD3, .ref qD4, .ref qD5, .ref qD6, .ref qD7, .ref qD8, .int (nI pts)])), (qD1, .inl (cI, 20, .inl kd)), (qD2, .inl (cI, 20, .inl ba)), (qD3, .inl (cI, 20, .inl ot)), (qD4, .inl (cI, 20, .inl aa)), (qD5, .inl (cI, 20, .inl bb)), (qD6, .inl (cI, 6, .inl bm)), (qD7, .inl (cI, 20, .inl xx)), (qD8, .inl (cI, 20, .inl yy)), (qP, .inr (1, [.ref qD, .ref qP1, .ref qP2, .ref qP3, .int (nI pcs), .int (nI sms)])), (qP1, .inl (cI, 7, .inl (fun k => nI (sn k)))), (qP2, .inl (cI, 56, .inl cor)), (qP3, .inl (cI, 40, .inl (fun k => nI (jn k)))), (qB, .inr (2, [.ref qB0, .ref qB1, .ref qB2, .ref qB3, .ref qB4, .int (nI pcs), .int (nI le), .int (nI wd), .int (nI ck)])), (qB0, .inl (cI, 7, .inl (fun k => nI (kWn xx cor sn wn (i + 1) k)))), (qB1, .inl (cI, 7, .inl (fun k => nI (kWn yy cor sn hn i k)))), (qB2, .inl (cZ, 7, .inl (kZ zz i))), (qB3, .inl (cI, 7, .inl od)), (qB4, .inl (cI, 7, .inl bo))] := hD
        refine lv_aload_n hx hb dX2_layLeast_29 rfl (lv_at hl 1 rfl) ?_
        refine va_get (D := G) (ci := 2) (v := .ref qB1) (C := RX2) (T := TX2) (N := 9) hx hb hts (fun _ h => List.mem_cons_of_mem _ (List.mem_append_left _ (List.mem_append_right _ h))) hown hK.1 hP 13 rfl rfl 1 (by decide) (hts (.fieldLink RX2 15 "TailorHouse$Table" "heights" "[I") (List.mem_of_getElem? (i := 3) rfl)) (fun _ h9 => h9) rfl dX2_layLeast_30 ?_
        refine lv_iload_n hx hb dX2_layLeast_33 rfl (lv_at hl 0 rfl) ?_
        refine lv_aload_n hx hb dX2_layLeast_34 rfl (lv_at hl 2 rfl) ?_
        refine lv_iload_n hx hb dX2_layLeast_35 rfl (lv_at hl 0 rfl) ?_
        refine kx_ri (va_runV (As := [.int (nI i)]) (rest := [.int (nI i), .ref qB1]) ⟨hx, hb, hml, hown, hts⟩ (c_X1_roomDown l G cI cZ qP qD qP1 qP2 qP3 sn cor jn pcs sms hT qD1 qD2 qD3 qD4 qD5 qD6 qD7 qD8 kd ba ot aa bb bm xx yy pts i (by first | assumption | omega) (by first | assumption | omega) (by first | assumption | omega) (by omega) (hs1 i (by omega))) (cwV 1 hts gX2_layLeast_X1_roomDown rfl rfl rfl (by decide +kernel) ⟨(Nat.le_of_ble_eq_true rfl), (Nat.le_of_ble_eq_true rfl)⟩) (kx_preR hK (kx_sub 0 13 hP rfl) 9 rfl rfl) rfl rfl hl.1 rfl (lv_room (Nat.le_of_ble_eq_true rfl)) dX2_layLeast_36 ⟨Nat.zero_le _, Nat.zero_le _⟩) ?_
        refine kx_iastN hx hb hK.1 hP hD hS 15 rfl rfl i (by omega) (by decide) dX2_layLeast_39 (fun H locs hP hD hS => ?_)
        have hP : va_P G vwCl [(qD, .inr (0, [.ref hT, .ref qD1, .ref qD2, .ref qD3, .ref qD4, .ref qD5, .ref qD6, .ref qD7, .ref qD8, .int (nI pts)])), (qD1, .inl (cI, 20, .inl kd)), (qD2, .inl (cI, 20, .inl ba)), (qD3, .inl (cI, 20, .inl ot)), (qD4, .inl (cI, 20, .inl aa)), (qD5, .inl (cI, 20, .inl bb)), (qD6, .inl (cI, 6, .inl bm)), (qD7, .inl (cI, 20, .inl xx)), (qD8, .inl (cI, 20, .inl yy)), (qP, .inr (1, [.ref qD, .ref qP1, .ref qP2, .ref qP3, .int (nI pcs), .int (nI sms)])), (qP1, .inl (cI, 7, .inl (fun k => nI (sn k)))), (qP2, .inl (cI, 56, .inl cor)), (qP3, .inl (cI, 40, .inl (fun k => nI (jn k)))), (qB, .inr (2, [.ref qB0, .ref qB1, .ref qB2, .ref qB3, .ref qB4, .int (nI pcs), .int (nI le), .int (nI wd), .int (nI ck)])), (qB0, .inl (cI, 7, .inl (fun k => nI (kWn xx cor sn wn (i + 1) k)))), (qB1, .inl (cI, 7, .inl (upd (fun k => nI (kWn yy cor sn hn i k)) i (kRoom yy cor sn i)))), (qB2, .inl (cZ, 7, .inl (kZ zz i))), (qB3, .inl (cI, 7, .inl od)), (qB4, .inl (cI, 7, .inl bo))] H := hP
        have hD : va_D A [(qD, .inr (0, [.ref hT, .ref qD1, .ref qD2, .ref qD3, .ref qD4, .ref qD5, .ref qD6, .ref qD7, .ref qD8, .int (nI pts)])), (qD1, .inl (cI, 20, .inl kd)), (qD2, .inl (cI, 20, .inl ba)), (qD3, .inl (cI, 20, .inl ot)), (qD4, .inl (cI, 20, .inl aa)), (qD5, .inl (cI, 20, .inl bb)), (qD6, .inl (cI, 6, .inl bm)), (qD7, .inl (cI, 20, .inl xx)), (qD8, .inl (cI, 20, .inl yy)), (qP, .inr (1, [.ref qD, .ref qP1, .ref qP2, .ref qP3, .int (nI pcs), .int (nI sms)])), (qP1, .inl (cI, 7, .inl (fun k => nI (sn k)))), (qP2, .inl (cI, 56, .inl cor)), (qP3, .inl (cI, 40, .inl (fun k => nI (jn k)))), (qB, .inr (2, [.ref qB0, .ref qB1, .ref qB2, .ref qB3, .ref qB4, .int (nI pcs), .int (nI le), .int (nI wd), .int (nI ck)])), (qB0, .inl (cI, 7, .inl (fun k => nI (kWn xx cor sn wn (i + 1) k)))), (qB1, .inl (cI, 7, .inl (upd (fun k => nI (kWn yy cor sn hn i k)) i (kRoom yy cor sn i)))), (qB2, .inl (cZ, 7, .inl (kZ zz i))), (qB3, .inl (cI, 7, .inl od)), (qB4, .inl (cI, 7, .inl bo))] := hD
        rw [← kWn_s yy cor sn hn i] at hP hD
        have hP : va_P G vwCl [(qD, .inr (0, [.ref hT, .ref qD1, .ref qD2, .ref qD3, .ref qD4, .ref qD5, .ref qD6, .ref qD7, .ref qD8, .int (nI pts)])), (qD1, .inl (cI, 20, .inl kd)), (qD2, .inl (cI, 20, .inl ba)), (qD3, .inl (cI, 20, .inl ot)), (qD4, .inl (cI, 20, .inl aa)), (qD5, .inl (cI, 20, .inl bb)), (qD6, .inl (cI, 6, .inl bm)), (qD7, .inl (cI, 20, .inl xx)), (qD8, .inl (cI, 20, .inl yy)), (qP, .inr (1, [.ref qD, .ref qP1, .ref qP2, .ref qP3, .int (nI pcs), .int (nI sms)])), (qP1, .inl (cI, 7, .inl (fun k => nI (sn k)))), (qP2, .inl (cI, 56, .inl cor)), (qP3, .inl (cI, 40, .inl (fun k => nI (jn k)))), (qB, .inr (2, [.ref qB0, .ref qB1, .ref qB2, .ref qB3, .ref qB4, .int (nI pcs), .int (nI le), .int (nI wd), .int (nI ck)])), (qB0, .inl (cI, 7, .inl (fun k => nI (kWn xx cor sn wn (i + 1) k)))), (qB1, .inl (cI, 7, .inl (fun k => nI (kWn yy cor sn hn (i + 1) k)))), (qB2, .inl (cZ, 7, .inl (kZ zz i))), (qB3, .inl (cI, 7, .inl od)), (qB4, .inl (cI, 7, .inl bo))] H := hP
        have hD : va_D A [(qD, .inr (0, [.ref hT, .ref qD1, .ref qD2, .ref qD3, .ref qD4, .ref qD5, .ref qD6, .ref qD7, .ref qD8, .int (nI pts)])), (qD1, .inl (cI, 20, .inl kd)), (qD2, .inl (cI, 20, .inl ba)), (qD3, .inl (cI, 20, .inl ot)), (qD4, .inl (cI, 20, .inl aa)), (qD5, .inl (cI, 20, .inl bb)), (qD6, .inl (cI, 6, .inl bm)), (qD7, .inl (cI, 20, .inl xx)), (qD8, .inl (cI, 20, .inl yy)), (qP, .inr (1, [.ref qD, .ref qP1, .ref qP2, .ref qP3, .int (nI pcs), .int (nI sms)])), (qP1, .inl (cI, 7, .inl (fun k => nI (sn k)))), (qP2, .inl (cI, 56, .inl cor)), (qP3, .inl (cI, 40, .inl (fun k => nI (jn k)))), (qB, .inr (2, [.ref qB0, .ref qB1, .ref qB2, .ref qB3, .ref qB4, .int (nI pcs), .int (nI le), .int (nI wd), .int (nI ck)])), (qB0, .inl (cI, 7, .inl (fun k => nI (kWn xx cor sn wn (i + 1) k)))), (qB1, .inl (cI, 7, .inl (fun k => nI (kWn yy cor sn hn (i + 1) k)))), (qB2, .inl (cZ, 7, .inl (kZ zz i))), (qB3, .inl (cI, 7, .inl od)), (qB4, .inl (cI, 7, .inl bo))] := hD
        refine lv_aload_n hx hb dX2_layLeast_40 rfl (lv_at hl 1 rfl) ?_
        refine va_get (D := G) (ci := 2) (v := .ref qB2) (C := RX2) (T := TX2) (N := 9) hx hb hts (fun _ h => List.mem_cons_of_mem _ (List.mem_append_left _ (List.mem_append_right _ h))) hown hK.1 hP 13 rfl rfl 2 (by decide) (hts (.fieldLink RX2 18 "TailorHouse$Table" "isLaid" "[Z") (List.mem_of_getElem? (i := 4) rfl)) (fun _ h9 => h9) rfl dX2_layLeast_41 ?_
        refine lv_iload_n hx hb dX2_layLeast_44 rfl (lv_at hl 0 rfl) ?_
        refine lv_iconst (v := 0) hx hb dX2_layLeast_45 (by decide) ?_
        refine kx_zastN hx hb hK.1 hP hD hS 16 rfl rfl (rfl) i (by omega) (by decide) dX2_layLeast_46 (fun H locs hP hD hS => ?_)
        have hP : va_P G vwCl [(qD, .inr (0, [.ref hT, .ref qD1, .ref qD2, .ref qD3, .ref qD4, .ref qD5, .ref qD6, .ref qD7, .ref qD8, .int (nI pts)])), (qD1, .inl (cI, 20, .inl kd)), (qD2, .inl (cI, 20, .inl ba)), (qD3, .inl (cI, 20, .inl ot)), (qD4, .inl (cI, 20, .inl aa)), (qD5, .inl (cI, 20, .inl bb)), (qD6, .inl (cI, 6, .inl bm)), (qD7, .inl (cI, 20, .inl xx)), (qD8, .inl (cI, 20, .inl yy)), (qP, .inr (1, [.ref qD, .ref qP1, .ref qP2, .ref qP3, .int (nI pcs), .int (nI sms)])), (qP1, .inl (cI, 7, .inl (fun k => nI (sn k)))), (qP2, .inl (cI, 56, .inl cor)), (qP3, .inl (cI, 40, .inl (fun k => nI (jn k)))), (qB, .inr (2, [.ref qB0, .ref qB1, .ref qB2, .ref qB3, .ref qB4, .int (nI pcs), .int (nI le), .int (nI wd), .int (nI ck)])), (qB0, .inl (cI, 7, .inl (fun k => nI (kWn xx cor sn wn (i + 1) k)))), (qB1, .inl (cI, 7, .inl (fun k => nI (kWn yy cor sn hn (i + 1) k)))), (qB2, .inl (cZ, 7, .inl (upd (kZ zz i) i 0))), (qB3, .inl (cI, 7, .inl od)), (qB4, .inl (cI, 7, .inl bo))] H := hP
        have hD : va_D A [(qD, .inr (0, [.ref hT, .ref qD1, .ref qD2, .ref qD3, .ref qD4, .ref qD5, .ref qD6, .ref qD7, .ref qD8, .int (nI pts)])), (qD1, .inl (cI, 20, .inl kd)), (qD2, .inl (cI, 20, .inl ba)), (qD3, .inl (cI, 20, .inl ot)), (qD4, .inl (cI, 20, .inl aa)), (qD5, .inl (cI, 20, .inl bb)), (qD6, .inl (cI, 6, .inl bm)), (qD7, .inl (cI, 20, .inl xx)), (qD8, .inl (cI, 20, .inl yy)), (qP, .inr (1, [.ref qD, .ref qP1, .ref qP2, .ref qP3, .int (nI pcs), .int (nI sms)])), (qP1, .inl (cI, 7, .inl (fun k => nI (sn k)))), (qP2, .inl (cI, 56, .inl cor)), (qP3, .inl (cI, 40, .inl (fun k => nI (jn k)))), (qB, .inr (2, [.ref qB0, .ref qB1, .ref qB2, .ref qB3, .ref qB4, .int (nI pcs), .int (nI le), .int (nI wd), .int (nI ck)])), (qB0, .inl (cI, 7, .inl (fun k => nI (kWn xx cor sn wn (i + 1) k)))), (qB1, .inl (cI, 7, .inl (fun k => nI (kWn yy cor sn hn (i + 1) k)))), (qB2, .inl (cZ, 7, .inl (upd (kZ zz i) i 0))), (qB3, .inl (cI, 7, .inl od)), (qB4, .inl (cI, 7, .inl bo))] := hD
        rw [← kZ_s zz i] at hP hD
        have hP : va_P G vwCl [(qD, .inr (0, [.ref hT, .ref qD1, .ref qD2, .ref qD3, .ref qD4, .ref qD5, .ref qD6, .ref qD7, .ref qD8, .int (nI pts)])), (qD1, .inl (cI, 20, .inl kd)), (qD2, .inl (cI, 20, .inl ba)), (qD3, .inl (cI, 20, .inl ot)), (qD4, .inl (cI, 20, .inl aa)), (qD5, .inl (cI, 20, .inl bb)), (qD6, .inl (cI, 6, .inl bm)), (qD7, .inl (cI, 20, .inl xx)), (qD8, .inl (cI, 20, .inl yy)), (qP, .inr (1, [.ref qD, .ref qP1, .ref qP2, .ref qP3, .int (nI pcs), .int (nI sms)])), (qP1, .inl (cI, 7, .inl (fun k => nI (sn k)))), (qP2, .inl (cI, 56, .inl cor)), (qP3, .inl (cI, 40, .inl (fun k => nI (jn k)))), (qB, .inr (2, [.ref qB0, .ref qB1, .ref qB2, .ref qB3, .ref qB4, .int (nI pcs), .int (nI le), .int (nI wd), .int (nI ck)])), (qB0, .inl (cI, 7, .inl (fun k => nI (kWn xx cor sn wn (i + 1) k)))), (qB1, .inl (cI, 7, .inl (fun k => nI (kWn yy cor sn hn (i + 1) k)))), (qB2, .inl (cZ, 7, .inl (kZ zz (i + 1)))), (qB3, .inl (cI, 7, .inl od)), (qB4, .inl (cI, 7, .inl bo))] H := hP
        have hD : va_D A [(qD, .inr (0, [.ref hT, .ref qD1, .ref qD2, .ref qD3, .ref qD4, .ref qD5, .ref qD6, .ref qD7, .ref qD8, .int (nI pts)])), (qD1, .inl (cI, 20, .inl kd)), (qD2, .inl (cI, 20, .inl ba)), (qD3, .inl (cI, 20, .inl ot)), (qD4, .inl (cI, 20, .inl aa)), (qD5, .inl (cI, 20, .inl bb)), (qD6, .inl (cI, 6, .inl bm)), (qD7, .inl (cI, 20, .inl xx)), (qD8, .inl (cI, 20, .inl yy)), (qP, .inr (1, [.ref qD, .ref qP1, .ref qP2, .ref qP3, .int (nI pcs), .int (nI sms)])), (qP1, .inl (cI, 7, .inl (fun k => nI (sn k)))), (qP2, .inl (cI, 56, .inl cor)), (qP3, .inl (cI, 40, .inl (fun k => nI (jn k)))), (qB, .inr (2, [.ref qB0, .ref qB1, .ref qB2, .ref qB3, .ref qB4, .int (nI pcs), .int (nI le), .int (nI wd), .int (nI ck)])), (qB0, .inl (cI, 7, .inl (fun k => nI (kWn xx cor sn wn (i + 1) k)))), (qB1, .inl (cI, 7, .inl (fun k => nI (kWn yy cor sn hn (i + 1) k)))), (qB2, .inl (cZ, 7, .inl (kZ zz (i + 1)))), (qB3, .inl (cI, 7, .inl od)), (qB4, .inl (cI, 7, .inl bo))] := hD
        refine lv_aload_n hx hb dX2_layLeast_47 rfl (lv_at hl 1 rfl) ?_
        refine va_get (D := G) (ci := 2) (v := .ref qB0) (C := RX2) (T := TX2) (N := 9) hx hb hts (fun _ h => List.mem_cons_of_mem _ (List.mem_append_left _ (List.mem_append_right _ h))) hown hK.1 hP 13 rfl rfl 0 (by decide) (hts (.fieldLink RX2 9 "TailorHouse$Table" "widths" "[I") (List.mem_of_getElem? (i := 2) rfl)) (fun _ h9 => h9) rfl dX2_layLeast_48 ?_
        refine lv_iload_n hx hb dX2_layLeast_51 rfl (lv_at hl 0 rfl) ?_
        refine kx_ialdN hx hb hK.1 hP 14 rfl rfl i (by omega) (by decide) dX2_layLeast_52 ?_
        refine kx_top (y := nI ((kRoom xx cor sn i).toNatClampNeg)) (congrArg nI (kWn_lt xx cor sn wn (Nat.lt_succ_self i))) ?_
        refine lv_aload_n hx hb dX2_layLeast_53 rfl (lv_at hl 1 rfl) ?_
        refine va_get (D := G) (ci := 2) (v := .int (nI wd)) (C := RX2) (T := TX2) (N := 9) hx hb hts (fun _ h => List.mem_cons_of_mem _ (List.mem_append_left _ (List.mem_append_right _ h))) hown hK.1 hP 13 rfl rfl 7 (by decide) (hts (.fieldLink RX2 35 "TailorHouse$Table" "width" "I") (List.mem_of_getElem? (i := 5) rfl)) (fun _ h9 => h9) rfl dX2_layLeast_54 ?_
        refine kx_leN hx hb ((kRoom xx cor sn i).toNatClampNeg) wd (by first | omega | exact kx_tn _) (by first | omega | exact kx_tn _) (tgt := 62) dX2_layLeast_57 (by decide) (fun c_4 => ?_) (fun c_4 => ?_)
        · skip
          refine lv_iinc (v := nI (i + 1)) (lv' := [(2, .int (nI (i + 1))), (0, .ref qB), (1, .ref qP)]) hx hb dX2_layLeast_62 hl (k := 0) rfl (nI_1 i) (by decide) rfl (fun ls hl => ?_)
          refine lv_goto (tgt := 10) hx hb dX2_layLeast_65 (by decide) ?_
          exact ih_1 (i + 1) (i + 1) (fun k => nI (kWn xx cor sn wn (i + 1) k)) (fun k => nI (kWn yy cor sn hn (i + 1) k)) (kZ zz (i + 1)) (by omega) (kWn_f hf c_4) rfl rfl rfl rfl _ _ hP hD hS ls (lv_sub hl [0, 1, 2] rfl) (by omega)
        · skip
          refine lv_iconst (v := (-1)) hx hb dX2_layLeast_60 (by decide) ?_
          exact W.iret (v := (-1)) hx hb hr (fun t ht hW => ⟨⟨(-1), (kWn xx cor sn wn (i + 1), kWn yy cor sn hn (i + 1), kZ zz (i + 1), od, bo, pcs, le), rfl, by show ite _ _ _; rw [if_neg (fun h => absurd (h i (by omega)) (by omega))], by (show va_P G vwCl _ t.heap; rw [ht]; exact hP)⟩, hS.F ht⟩) hS.2.2 dX2_layLeast_61 hlocks
  exact lab_10_1 ((pcs - 0) + 1) 0 0 (fun k => nI (wn k)) (fun k => nI (hn k)) zz (by omega) (fun k hk => absurd hk (Nat.not_lt_zero k)) rfl (by first | exact kWn_0 xx cor sn wn | exact kWn_0 yy cor sn hn | exact kZ_z zz) (by first | exact kWn_0 xx cor sn wn | exact kWn_0 yy cor sn hn | exact kZ_z zz) (by first | exact kWn_0 xx cor sn wn | exact kWn_0 yy cor sn hn | exact kZ_z zz) _ _ hP hD hS ls (lv_sub hl [0, 1, 2] rfl) (Nat.lt_succ_self _)
