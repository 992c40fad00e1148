/-! nextOrder's own steps -/
def kKz (n a : Nat) : Int32 := if n = 0 then -2 else nI a - 1
theorem kKz_0 (n : Nat) (h : n ≤ 7) : nI n - 2 = kKz n (n - 1) := by
  rcases (show n = 0 ∨ n = 1 ∨ n = 2 ∨ n = 3 ∨ n = 4 ∨ n = 5 ∨ n = 6 ∨ n = 7 by omega) with h | h | h | h | h | h | h | h <;> subst h <;> decide
theorem kKz_1 {n a : Nat} {z : Int32} (hn : n ≤ 7) (ha : a ≤ n - 1) (hz : kKz n a = z) (h : ¬ z < 0) : ∃ k, (a = k + 1 ∧ 0 < n) ∧ z = nI k := by
  subst hz
  unfold kKz at h ⊢
  by_cases h0 : n = 0
  · rw [if_pos h0] at h; exact absurd (by decide) h
  · rw [if_neg h0] at h ⊢
    cases a with
    | zero => exact absurd (by decide) h
    | succ k => exact ⟨k, ⟨rfl, by omega⟩, pk_sub (b := 1) (by omega)⟩
theorem kKz_2 {n a : Nat} {z : Int32} (hn : n ≤ 7) (ha : a ≤ n - 1) (hz : kKz n a = z) (h : z < 0) : a = 0 := by
  by_cases h0 : n = 0
  · omega
  · cases a with
    | zero => rfl
    | succ k =>
      exfalso
      rw [← hz, kKz, if_neg h0, show nI (k + 1) - 1 = nI k from pk_sub (b := 1) (by omega)] at h
      exact nI_pos (by omega) h
theorem kKz_3 {n k : Nat} (h0 : 0 < n) : kKz n k = nI k + (-1) := by
  unfold kKz
  rw [if_neg (by omega), Int32.sub_eq_add_neg]
theorem kPv_s {f : Nat → Nat} {k a : Nat} (e : a = k + 1) (h : f (k + 1) < f k) : kPv f k = kPv f a := by
  subst e
  exact (if_pos h).symm
theorem kPv_e {f : Nat → Nat} {k a m : Nat} (hp : kPv f a = m) (e : a = k + 1) (h : f k ≤ f (k + 1)) : m = k + 1 := by
  subst e
  rw [← hp]
  exact if_neg (by omega)
theorem kJs_lt {f : Nat → Nat} {k j : Nat} (h : k ≤ j) (h2 : f j < f k) : k < j := by
  rcases Nat.eq_or_lt_of_le h with e | e
  · subst e; omega
  · exact e
theorem kJs_s {f : Nat → Nat} {x j : Nat} (h0 : 0 < j) (h : f j < x) : kJs f x (j - 1) = kJs f x j := by
  cases j with
  | zero => omega
  | succ a => exact (if_pos h).symm
theorem kJs_e {f : Nat → Nat} {x j : Nat} (h : x ≤ f j) : kJs f x j = j := by
  cases j with
  | zero => rfl
  | succ a => exact if_neg (by omega)
theorem kRv_s {d : Nat} {f : Nat → Nat} {lo hi : Nat} (hd : 1 ≤ d) (h : lo < hi) : kRv (d - 1) (kSw f lo hi) (lo + 1) (hi - 1) = kRv d f lo hi := by
  cases d with
  | zero => omega
  | succ a => exact (if_pos h).symm
theorem kRv_e {d : Nat} {f : Nat → Nat} {lo hi : Nat} (h : hi ≤ lo) : kRv d f lo hi = f := by
  cases d with
  | zero => rfl
  | succ a => exact if_neg (by omega)
theorem kNO_e {n k j d lo hi : Nat} {f g : Nat → Nat} (hp : kPv f (n - 1) = k + 1) (hj : kJs f (f k) (n - 1) = j) (hr : kRv d g lo hi = kRv n (kSw f k j) (k + 1) (n - 1)) (h : hi ≤ lo) : g = kNO n f := by
  unfold kNO
  rw [hp, Nat.add_sub_cancel, hj, ← hr, kRv_e h]
theorem h_X6_nextOrder (cI cZ : ClassId) (qM : Nat) (qM1 : Nat) (qM2 : Nat) (qM3 : Nat) (qM4 : Nat) (qM5 : Nat) (qM6 : Nat) (qM7 : Nat) (qM8 : Nat) (qM9 : Nat) (qM10 : Nat) (qM11 : Nat) (qM12 : Nat) (qM13 : Nat) (hd : Nat → Int32) (bd : Nat → Int32) (ms : Nat → Int32) (dy : Nat → Int32) (vl : Nat → Int32) (hbt : Nat → Int32) (k0 : Nat → Int32) (k1 : Nat → Int32) (k2 : Nat → Int32) (k3 : Nat → Int32) (k4 : Nat → Int32) (sn : Nat → Nat) (cor : Nat → Int32) (jn : Nat → Nat) (cu : Nat → Nat) (se : Nat → Nat) (fi : Nat → Nat) (pr : Nat → Nat) (xx : Nat → Int32) (yy : Nat → Int32) (wn : Nat → Nat) (hn : Nat → Nat) (on : Nat → Nat) (be : Nat → Nat) (told : Nat) (pts : Nat) (pcs : Nat) (sms : Nat) (wd : Nat) (ck : Nat) (nc : Nat) (lt : Nat) (en : Nat) (bl : Nat) (bn : Nat) : ∀ u, (((fun u : (Nat → Nat) => [(qM, .inr (6, [.int (nI told), .ref qM1, .ref qM2, .int (nI pts), .ref qM3, .int (nI pcs), .ref qM4, .ref qM5, .int (nI sms), .ref qM6, .int (nI wd), .int (nI ck), .int (nI nc), .ref qM7, .ref qM8, .ref qM9, .ref qM10, .ref qM11, .ref qM12, .ref qM13, .int (nI lt), .int (nI en), .int (nI bl), .int (nI bn)])), (qM1, .inl (cI, 200, .inl (il5 hd bd ms dy vl))), (qM2, .inl (cI, 24, .inl hbt)), (qM3, .inl (cI, 100, .inl (il5 k0 k1 k2 k3 k4))), (qM4, .inl (cI, 7, .inl (fun k => nI (sn k)))), (qM5, .inl (cI, 56, .inl cor)), (qM6, .inl (cI, 40, .inl (fun k => nI (jn k)))), (qM7, .inl (cI, 24, .inl (fun k => nI (i4 cu se fi pr k)))), (qM8, .inl (cI, 20, .inl xx)), (qM9, .inl (cI, 20, .inl yy)), (qM10, .inl (cI, 7, .inl (fun k => nI (wn k)))), (qM11, .inl (cI, 7, .inl (fun k => nI (hn k)))), (qM12, .inl (cI, 7, .inl (fun k => nI (u k)))), (qM13, .inl (cI, 7, .inl (fun k => nI (be k))))]) : (Nat → Nat) → va_W) u).map Prod.fst = ([(qM, .inr (6, [.int (nI told), .ref qM1, .ref qM2, .int (nI pts), .ref qM3, .int (nI pcs), .ref qM4, .ref qM5, .int (nI sms), .ref qM6, .int (nI wd), .int (nI ck), .int (nI nc), .ref qM7, .ref qM8, .ref qM9, .ref qM10, .ref qM11, .ref qM12, .ref qM13, .int (nI lt), .int (nI en), .int (nI bl), .int (nI bn)])), (qM1, .inl (cI, 200, .inl (il5 hd bd ms dy vl))), (qM2, .inl (cI, 24, .inl hbt)), (qM3, .inl (cI, 100, .inl (il5 k0 k1 k2 k3 k4))), (qM4, .inl (cI, 7, .inl (fun k => nI (sn k)))), (qM5, .inl (cI, 56, .inl cor)), (qM6, .inl (cI, 40, .inl (fun k => nI (jn k)))), (qM7, .inl (cI, 24, .inl (fun k => nI (i4 cu se fi pr k)))), (qM8, .inl (cI, 20, .inl xx)), (qM9, .inl (cI, 20, .inl yy)), (qM10, .inl (cI, 7, .inl (fun k => nI (wn k)))), (qM11, .inl (cI, 7, .inl (fun k => nI (hn k)))), (qM12, .inl (cI, 7, .inl (fun k => nI (on k)))), (qM13, .inl (cI, 7, .inl (fun k => nI (be k))))] : va_W).map Prod.fst := fun _ => rfl
abbrev rm_X6_nextOrder : Room := { frames := 1, cells := 0, slots := 0, locals := 23 }
set_option maxHeartbeats 4000000 in
set_option maxRecDepth 100000 in
theorem c_X6_nextOrder (l : Launch) (G : va_G) (cI cZ : ClassId) (qM : Nat) (qM1 : Nat) (qM2 : Nat) (qM3 : Nat) (qM4 : Nat) (qM5 : Nat) (qM6 : Nat) (qM7 : Nat) (qM8 : Nat) (qM9 : Nat) (qM10 : Nat) (qM11 : Nat) (qM12 : Nat) (qM13 : Nat) (hd : Nat → Int32) (bd : Nat → Int32) (ms : Nat → Int32) (dy : Nat → Int32) (vl : Nat → Int32) (hbt : Nat → Int32) (k0 : Nat → Int32) (k1 : Nat → Int32) (k2 : Nat → Int32) (k3 : Nat → Int32) (k4 : Nat → Int32) (sn : Nat → Nat) (cor : Nat → Int32) (jn : Nat → Nat) (cu : Nat → Nat) (se : Nat → Nat) (fi : Nat → Nat) (pr : Nat → Nat) (xx : Nat → Int32) (yy : Nat → Int32) (wn : Nat → Nat) (hn : Nat → Nat) (on : Nat → Nat) (be : Nat → Nat) (told : Nat) (pts : Nat) (pcs : Nat) (sms : Nat) (wd : Nat) (ck : Nat) (nc : Nat) (lt : Nat) (en : Nat) (bl : Nat) (bn : Nat) (sz : Nat) (n : Nat) (hn7 : n ≤ 7) (hon : ∀ i, i < n → on i < n) : Met l yX6_nextOrder wsX6_nextOrder rm_X6_nextOrder (kx_Pw G cI cZ [(qM, .inr (6, [.int (nI told), .ref qM1, .ref qM2, .int (nI pts), .ref qM3, .int (nI pcs), .ref qM4, .ref qM5, .int (nI sms), .ref qM6, .int (nI wd), .int (nI ck), .int (nI nc), .ref qM7, .ref qM8, .ref qM9, .ref qM10, .ref qM11, .ref qM12, .ref qM13, .int (nI lt), .int (nI en), .int (nI bl), .int (nI bn)])), (qM1, .inl (cI, 200, .inl (il5 hd bd ms dy vl))), (qM2, .inl (cI, 24, .inl hbt)), (qM3, .inl (cI, 100, .inl (il5 k0 k1 k2 k3 k4))), (qM4, .inl (cI, 7, .inl (fun k => nI (sn k)))), (qM5, .inl (cI, 56, .inl cor)), (qM6, .inl (cI, 40, .inl (fun k => nI (jn k)))), (qM7, .inl (cI, 24, .inl (fun k => nI (i4 cu se fi pr k)))), (qM8, .inl (cI, 20, .inl xx)), (qM9, .inl (cI, 20, .inl yy)), (qM10, .inl (cI, 7, .inl (fun k => nI (wn k)))), (qM11, .inl (cI, 7, .inl (fun k => nI (hn k)))), (qM12, .inl (cI, 7, .inl (fun k => nI (on k)))), (qM13, .inl (cI, 7, .inl (fun k => nI (be k))))] sz [.ref qM, .int (nI n)]) (va_Qi (fun (r : Int32) (u : (Nat → Nat)) => if kPv on (n - 1) = 0 then r = 0 ∧ u = on else r = 1 ∧ u = kNO n on) (fun u t => va_P G vwCl ((fun u : (Nat → Nat) => [(qM, .inr (6, [.int (nI told), .ref qM1, .ref qM2, .int (nI pts), .ref qM3, .int (nI pcs), .ref qM4, .ref qM5, .int (nI sms), .ref qM6, .int (nI wd), .int (nI ck), .int (nI nc), .ref qM7, .ref qM8, .ref qM9, .ref qM10, .ref qM11, .ref qM12, .ref qM13, .int (nI lt), .int (nI en), .int (nI bl), .int (nI bn)])), (qM1, .inl (cI, 200, .inl (il5 hd bd ms dy vl))), (qM2, .inl (cI, 24, .inl hbt)), (qM3, .inl (cI, 100, .inl (il5 k0 k1 k2 k3 k4))), (qM4, .inl (cI, 7, .inl (fun k => nI (sn k)))), (qM5, .inl (cI, 56, .inl cor)), (qM6, .inl (cI, 40, .inl (fun k => nI (jn k)))), (qM7, .inl (cI, 24, .inl (fun k => nI (i4 cu se fi pr k)))), (qM8, .inl (cI, 20, .inl xx)), (qM9, .inl (cI, 20, .inl yy)), (qM10, .inl (cI, 7, .inl (fun k => nI (wn k)))), (qM11, .inl (cI, 7, .inl (fun k => nI (hn k)))), (qM12, .inl (cI, 7, .inl (fun k => nI (u k)))), (qM13, .inl (cI, 7, .inl (fun k => nI (be k))))]) u) t.heap) (va_A [(qM, .inr (6, [.int (nI told), .ref qM1, .ref qM2, .int (nI pts), .ref qM3, .int (nI pcs), .ref qM4, .ref qM5, .int (nI sms), .ref qM6, .int (nI wd), .int (nI ck), .int (nI nc), .ref qM7, .ref qM8, .ref qM9, .ref qM10, .ref qM11, .ref qM12, .ref qM13, .int (nI lt), .int (nI en), .int (nI bl), .int (nI bn)])), (qM1, .inl (cI, 200, .inl (il5 hd bd ms dy vl))), (qM2, .inl (cI, 24, .inl hbt)), (qM3, .inl (cI, 100, .inl (il5 k0 k1 k2 k3 k4))), (qM4, .inl (cI, 7, .inl (fun k => nI (sn k)))), (qM5, .inl (cI, 56, .inl cor)), (qM6, .inl (cI, 40, .inl (fun k => nI (jn k)))), (qM7, .inl (cI, 24, .inl (fun k => nI (i4 cu se fi pr k)))), (qM8, .inl (cI, 20, .inl xx)), (qM9, .inl (cI, 20, .inl yy)), (qM10, .inl (cI, 7, .inl (fun k => nI (wn k)))), (qM11, .inl (cI, 7, .inl (fun k => nI (hn k)))), (qM12, .inl (cI, 7, .inl (fun k => nI (on k)))), (qM13, .inl (cI, 7, .inl (fun k => nI (be k))))] sz)) 0 0 (va_A [(qM, .inr (6, [.int (nI told), .ref qM1, .ref qM2, .int (nI pts), .ref qM3, .int (nI pcs), .ref qM4, .ref qM5, .int (nI sms), .ref qM6, .int (nI wd), .int (nI ck), .int (nI nc), .ref qM7, .ref qM8, .ref qM9, .ref qM10, .ref qM11, .ref qM12, .ref qM13, .int (nI lt), .int (nI en), .int (nI bl), .int (nI bn)])), (qM1, .inl (cI, 200, .inl (il5 hd bd ms dy vl))), (qM2, .inl (cI, 24, .inl hbt)), (qM3, .inl (cI, 100, .inl (il5 k0 k1 k2 k3 k4))), (qM4, .inl (cI, 7, .inl (fun k => nI (sn k)))), (qM5, .inl (cI, 56, .inl cor)), (qM6, .inl (cI, 40, .inl (fun k => nI (jn k)))), (qM7, .inl (cI, 24, .inl (fun k => nI (i4 cu se fi pr k)))), (qM8, .inl (cI, 20, .inl xx)), (qM9, .inl (cI, 20, .inl yy)), (qM10, .inl (cI, 7, .inl (fun k => nI (wn k)))), (qM11, .inl (cI, 7, .inl (fun k => nI (hn k)))), (qM12, .inl (cI, 7, .inl (fun k => nI (on k)))), (qM13, .inl (cI, 7, .inl (fun k => nI (be k))))] sz) := by
  refine Met.ofW (cc := cX6_nextOrder) (maxL := 6) (ret := (some .boolean)) (by decide) rfl ?_
  intro p e s m args below meth c s₁ B hml hv
  obtain ⟨rfl, hsz, hP, hD0, hK⟩ := hv
  have hx := B.exec
  have hb := B.bytes
  have hr := B.returns
  have hts := atoms_spec (ws := wsX6_nextOrder) B.pre
  have hown : s.vm.findClass RX6 = some m.cls := findClass_of_methodNamed B.named
  have hlocks := B.notSynchronized
  subst hsz
  have hD := hD0.self (sz := s.heap.size)
  generalize hAe : va_A [(qM, .inr (6, [.int (nI told), .ref qM1, .ref qM2, .int (nI pts), .ref qM3, .int (nI pcs), .ref qM4, .ref qM5, .int (nI sms), .ref qM6, .int (nI wd), .int (nI ck), .int (nI nc), .ref qM7, .ref qM8, .ref qM9, .ref qM10, .ref qM11, .ref qM12, .ref qM13, .int (nI lt), .int (nI en), .int (nI bl), .int (nI bn)])), (qM1, .inl (cI, 200, .inl (il5 hd bd ms dy vl))), (qM2, .inl (cI, 24, .inl hbt)), (qM3, .inl (cI, 100, .inl (il5 k0 k1 k2 k3 k4))), (qM4, .inl (cI, 7, .inl (fun k => nI (sn k)))), (qM5, .inl (cI, 56, .inl cor)), (qM6, .inl (cI, 40, .inl (fun k => nI (jn k)))), (qM7, .inl (cI, 24, .inl (fun k => nI (i4 cu se fi pr k)))), (qM8, .inl (cI, 20, .inl xx)), (qM9, .inl (cI, 20, .inl yy)), (qM10, .inl (cI, 7, .inl (fun k => nI (wn k)))), (qM11, .inl (cI, 7, .inl (fun k => nI (hn k)))), (qM12, .inl (cI, 7, .inl (fun k => nI (on k)))), (qM13, .inl (cI, 7, .inl (fun k => nI (be k))))] s.heap.size = A at hD ⊢
  have hA : ∀ q : Nat, s.heap.size ≤ q → A q := fun q h => by rw [← hAe]; exact Or.inr h
  have hS : va_S A s.heap s.heap [] := va_S.rf
  have hl := lv_entry ([.ref qM, .int (nI n)]) (n := 6) (Nat.le_of_ble_eq_true rfl)
  rw [lg_entry_eq]
  generalize (lg_sl ([.ref qM, .int (nI n)]) ++ List.replicate (6 - (lg_sl ([.ref qM, .int (nI n)])).length) Slot.unset).toArray = ls at hl ⊢
  have hl : lv_has ls 6 [(0, .ref qM), (1, .int (nI n))] := hl
  refine lv_iload_n hx hb dX6_nextOrder_0 rfl (lv_at hl 1 rfl) ?_
  refine lv_iconst (v := 2) hx hb dX6_nextOrder_1 (by decide) ?_
  refine lv_isub hx hb dX6_nextOrder_2 ?_
  refine lv_istore_n (lv' := [(2, .int ((nI n) - 2)), (0, .ref qM), (1, .int (nI n))]) hx hb dX6_nextOrder_3 rfl hl (by decide) rfl (fun ls hl => ?_)
  have lab_4_1 : ∀ (nn_1 : Nat) (kz : Int32) (a : Nat) (z1_0 : Int32) (ha : a ≤ n - 1) (hkz : kKz n a = kz) (hpv : kPv on a = kPv on (n - 1)) (ez1_0 : kz = z1_0) (H : Heap) (locs : List Loc) (hP : va_P G vwCl [(qM, .inr (6, [.int (nI told), .ref qM1, .ref qM2, .int (nI pts), .ref qM3, .int (nI pcs), .ref qM4, .ref qM5, .int (nI sms), .ref qM6, .int (nI wd), .int (nI ck), .int (nI nc), .ref qM7, .ref qM8, .ref qM9, .ref qM10, .ref qM11, .ref qM12, .ref qM13, .int (nI lt), .int (nI en), .int (nI bl), .int (nI bn)])), (qM1, .inl (cI, 200, .inl (il5 hd bd ms dy vl))), (qM2, .inl (cI, 24, .inl hbt)), (qM3, .inl (cI, 100, .inl (il5 k0 k1 k2 k3 k4))), (qM4, .inl (cI, 7, .inl (fun k => nI (sn k)))), (qM5, .inl (cI, 56, .inl cor)), (qM6, .inl (cI, 40, .inl (fun k => nI (jn k)))), (qM7, .inl (cI, 24, .inl (fun k => nI (i4 cu se fi pr k)))), (qM8, .inl (cI, 20, .inl xx)), (qM9, .inl (cI, 20, .inl yy)), (qM10, .inl (cI, 7, .inl (fun k => nI (wn k)))), (qM11, .inl (cI, 7, .inl (fun k => nI (hn k)))), (qM12, .inl (cI, 7, .inl (fun k => nI (on k)))), (qM13, .inl (cI, 7, .inl (fun k => nI (be k))))] H) (hD : va_D A [(qM, .inr (6, [.int (nI told), .ref qM1, .ref qM2, .int (nI pts), .ref qM3, .int (nI pcs), .ref qM4, .ref qM5, .int (nI sms), .ref qM6, .int (nI wd), .int (nI ck), .int (nI nc), .ref qM7, .ref qM8, .ref qM9, .ref qM10, .ref qM11, .ref qM12, .ref qM13, .int (nI lt), .int (nI en), .int (nI bl), .int (nI bn)])), (qM1, .inl (cI, 200, .inl (il5 hd bd ms dy vl))), (qM2, .inl (cI, 24, .inl hbt)), (qM3, .inl (cI, 100, .inl (il5 k0 k1 k2 k3 k4))), (qM4, .inl (cI, 7, .inl (fun k => nI (sn k)))), (qM5, .inl (cI, 56, .inl cor)), (qM6, .inl (cI, 40, .inl (fun k => nI (jn k)))), (qM7, .inl (cI, 24, .inl (fun k => nI (i4 cu se fi pr k)))), (qM8, .inl (cI, 20, .inl xx)), (qM9, .inl (cI, 20, .inl yy)), (qM10, .inl (cI, 7, .inl (fun k => nI (wn k)))), (qM11, .inl (cI, 7, .inl (fun k => nI (hn k)))), (qM12, .inl (cI, 7, .inl (fun k => nI (on k)))), (qM13, .inl (cI, 7, .inl (fun k => nI (be k))))]) (hS : va_S A s.heap H locs) (ls : Array Slot) (hl : lv_has ls 6 [(2, .int z1_0), (0, .ref qM), (1, .int (nI n))]), a < nn_1 → W p l e (headSpec wsX6_nextOrder rm_X6_nextOrder).room s m ([.ref qM, .int (nI n)] : List Value).toArray below meth c H locs 0 0 (MQ below (va_Qi (fun (r : Int32) (u : (Nat → Nat)) => if kPv on (n - 1) = 0 then r = 0 ∧ u = on else r = 1 ∧ u = kNO n on) (fun u t => va_P G vwCl ((fun u : (Nat → Nat) => [(qM, .inr (6, [.int (nI told), .ref qM1, .ref qM2, .int (nI pts), .ref qM3, .int (nI pcs), .ref qM4, .ref qM5, .int (nI sms), .ref qM6, .int (nI wd), .int (nI ck), .int (nI nc), .ref qM7, .ref qM8, .ref qM9, .ref qM10, .ref qM11, .ref qM12, .ref qM13, .int (nI lt), .int (nI en), .int (nI bl), .int (nI bn)])), (qM1, .inl (cI, 200, .inl (il5 hd bd ms dy vl))), (qM2, .inl (cI, 24, .inl hbt)), (qM3, .inl (cI, 100, .inl (il5 k0 k1 k2 k3 k4))), (qM4, .inl (cI, 7, .inl (fun k => nI (sn k)))), (qM5, .inl (cI, 56, .inl cor)), (qM6, .inl (cI, 40, .inl (fun k => nI (jn k)))), (qM7, .inl (cI, 24, .inl (fun k => nI (i4 cu se fi pr k)))), (qM8, .inl (cI, 20, .inl xx)), (qM9, .inl (cI, 20, .inl yy)), (qM10, .inl (cI, 7, .inl (fun k => nI (wn k)))), (qM11, .inl (cI, 7, .inl (fun k => nI (hn k)))), (qM12, .inl (cI, 7, .inl (fun k => nI (u k)))), (qM13, .inl (cI, 7, .inl (fun k => nI (be k))))]) u) t.heap) A) ([.ref qM, .int (nI n)] : List Value).toArray s 0 0 A) (F0 m 4 ls []) := by
    intro nn_1
    induction nn_1 with
    | zero => intro kz a z1_0 ha hkz hpv ez1_0 H locs hP hD hS ls hl hn; exact absurd hn (Nat.not_lt_zero _)
    | succ nn_1 ih_1 =>
      intro kz a z1_0 ha hkz hpv ez1_0 H locs hP hD hS ls hl hn_1
      subst ez1_0
      refine lv_iload_n hx hb dX6_nextOrder_4 rfl (lv_at hl 0 rfl) ?_
      refine lv_if_lt (tgt := 31) hx hb dX6_nextOrder_5 (by decide) (fun c_2 => ?_) (fun c_2 => ?_)
      · skip
        refine lv_iload_n hx hb dX6_nextOrder_31 rfl (lv_at hl 0 rfl) ?_
        refine lv_if_ge (tgt := 37) hx hb dX6_nextOrder_32 (by decide) (fun c_3 => ?_) (fun c_3 => ?_)
        · exact absurd c_3 (Int32.not_le.mpr c_2)
        · skip
          refine lv_iconst (v := 0) hx hb dX6_nextOrder_35 (by decide) ?_
          exact W.zret (v := 0) hx hb hr (rfl) (fun t ht hW => ⟨⟨0, on, rfl, by show ite _ _ _; rw [if_pos (by rw [← hpv, kKz_2 hn7 ha hkz c_2]; rfl)]; exact ⟨rfl, rfl⟩, by (show va_P G vwCl _ t.heap; rw [ht]; exact hP)⟩, hS.F ht⟩) hS.2.2 dX6_nextOrder_36 hlocks
      · skip
        obtain ⟨kq, hkq, rfl⟩ := kKz_1 hn7 ha hkz c_2
        refine lv_aload_n hx hb dX6_nextOrder_8 rfl (lv_at hl 1 rfl) ?_
        refine va_get (D := G) (ci := 6) (v := .ref qM12) (C := RX6) (T := TX6) (N := 24) hx hb hts (fun _ h => List.mem_cons_of_mem _ (List.mem_append_right _ h)) hown hK.1 hP 0 rfl rfl 18 (by decide) (hts (.fieldLink RX6 50 "TailorHouseModel" "order" "[I") (List.mem_of_getElem? (i := 1) rfl)) (fun _ h9 => h9) rfl dX6_nextOrder_9 ?_
        refine lv_iload_n hx hb dX6_nextOrder_12 rfl (lv_at hl 0 rfl) ?_
        refine kx_ialdN hx hb hK.1 hP 12 rfl rfl kq (by omega) (by decide) dX6_nextOrder_13 ?_
        refine lv_aload_n hx hb dX6_nextOrder_14 rfl (lv_at hl 1 rfl) ?_
        refine va_get (D := G) (ci := 6) (v := .ref qM12) (C := RX6) (T := TX6) (N := 24) hx hb hts (fun _ h => List.mem_cons_of_mem _ (List.mem_append_right _ h)) hown hK.1 hP 0 rfl rfl 18 (by decide) (hts (.fieldLink RX6 50 "TailorHouseModel" "order" "[I") (List.mem_of_getElem? (i := 1) rfl)) (fun _ h9 => h9) rfl dX6_nextOrder_15 ?_
        refine lv_iload_n hx hb dX6_nextOrder_18 rfl (lv_at hl 0 rfl) ?_
        refine lv_iconst (v := 1) hx hb dX6_nextOrder_19 (by decide) ?_
        refine kx_iaddN hx hb kq 1 dX6_nextOrder_20 ?_
        refine kx_ialdN hx hb hK.1 hP 12 rfl rfl (kq + 1) (by omega) (by decide) dX6_nextOrder_21 ?_
        have hb1 := hon kq (by omega)
        have hb2 := hon (kq + 1) (by omega)
        refine kx_leN hx hb (on kq) (on (kq + 1)) (by omega) (by omega) (tgt := 31) dX6_nextOrder_22 (by decide) (fun c_4 => ?_) (fun c_4 => ?_)
        · skip
          refine lv_iload_n hx hb dX6_nextOrder_31 rfl (lv_at hl 0 rfl) ?_
          refine lv_if_ge (tgt := 37) hx hb dX6_nextOrder_32 (by decide) (fun c_5 => ?_) (fun c_5 => ?_)
          · skip
            have hpv2 := kPv_e hpv hkq.1 c_4
            refine lv_iload_n hx hb dX6_nextOrder_37 rfl (lv_at hl 2 rfl) ?_
            refine lv_iconst (v := 1) hx hb dX6_nextOrder_38 (by decide) ?_
            refine kx_isubN hx hb n 1 (by omega) dX6_nextOrder_39 ?_
            refine lv_istore_n (lv' := [(3, .int (nI (n - 1))), (2, .int (nI kq)), (0, .ref qM), (1, .int (nI n))]) hx hb dX6_nextOrder_40 rfl hl (by decide) rfl (fun ls hl => ?_)
            have lab_41_6 : ∀ (nn_6 : Nat) (j : Nat) (z6_0 : Nat) (hj : kq ≤ j ∧ j ≤ n - 1) (hjs : kJs on (on kq) j = kJs on (on kq) (n - 1)) (ez6_0 : j = z6_0) (H : Heap) (locs : List Loc) (hP : va_P G vwCl [(qM, .inr (6, [.int (nI told), .ref qM1, .ref qM2, .int (nI pts), .ref qM3, .int (nI pcs), .ref qM4, .ref qM5, .int (nI sms), .ref qM6, .int (nI wd), .int (nI ck), .int (nI nc), .ref qM7, .ref qM8, .ref qM9, .ref qM10, .ref qM11, .ref qM12, .ref qM13, .int (nI lt), .int (nI en), .int (nI bl), .int (nI bn)])), (qM1, .inl (cI, 200, .inl (il5 hd bd ms dy vl))), (qM2, .inl (cI, 24, .inl hbt)), (qM3, .inl (cI, 100, .inl (il5 k0 k1 k2 k3 k4))), (qM4, .inl (cI, 7, .inl (fun k => nI (sn k)))), (qM5, .inl (cI, 56, .inl cor)), (qM6, .inl (cI, 40, .inl (fun k => nI (jn k)))), (qM7, .inl (cI, 24, .inl (fun k => nI (i4 cu se fi pr k)))), (qM8, .inl (cI, 20, .inl xx)), (qM9, .inl (cI, 20, .inl yy)), (qM10, .inl (cI, 7, .inl (fun k => nI (wn k)))), (qM11, .inl (cI, 7, .inl (fun k => nI (hn k)))), (qM12, .inl (cI, 7, .inl (fun k => nI (on k)))), (qM13, .inl (cI, 7, .inl (fun k => nI (be k))))] H) (hD : va_D A [(qM, .inr (6, [.int (nI told), .ref qM1, .ref qM2, .int (nI pts), .ref qM3, .int (nI pcs), .ref qM4, .ref qM5, .int (nI sms), .ref qM6, .int (nI wd), .int (nI ck), .int (nI nc), .ref qM7, .ref qM8, .ref qM9, .ref qM10, .ref qM11, .ref qM12, .ref qM13, .int (nI lt), .int (nI en), .int (nI bl), .int (nI bn)])), (qM1, .inl (cI, 200, .inl (il5 hd bd ms dy vl))), (qM2, .inl (cI, 24, .inl hbt)), (qM3, .inl (cI, 100, .inl (il5 k0 k1 k2 k3 k4))), (qM4, .inl (cI, 7, .inl (fun k => nI (sn k)))), (qM5, .inl (cI, 56, .inl cor)), (qM6, .inl (cI, 40, .inl (fun k => nI (jn k)))), (qM7, .inl (cI, 24, .inl (fun k => nI (i4 cu se fi pr k)))), (qM8, .inl (cI, 20, .inl xx)), (qM9, .inl (cI, 20, .inl yy)), (qM10, .inl (cI, 7, .inl (fun k => nI (wn k)))), (qM11, .inl (cI, 7, .inl (fun k => nI (hn k)))), (qM12, .inl (cI, 7, .inl (fun k => nI (on k)))), (qM13, .inl (cI, 7, .inl (fun k => nI (be k))))]) (hS : va_S A s.heap H locs) (ls : Array Slot) (hl : lv_has ls 6 [(3, .int (nI z6_0)), (2, .int (nI kq)), (0, .ref qM), (1, .int (nI n))]), j < nn_6 → W p l e (headSpec wsX6_nextOrder rm_X6_nextOrder).room s m ([.ref qM, .int (nI n)] : List Value).toArray below meth c H locs 0 0 (MQ below (va_Qi (fun (r : Int32) (u : (Nat → Nat)) => if kPv on (n - 1) = 0 then r = 0 ∧ u = on else r = 1 ∧ u = kNO n on) (fun u t => va_P G vwCl ((fun u : (Nat → Nat) => [(qM, .inr (6, [.int (nI told), .ref qM1, .ref qM2, .int (nI pts), .ref qM3, .int (nI pcs), .ref qM4, .ref qM5, .int (nI sms), .ref qM6, .int (nI wd), .int (nI ck), .int (nI nc), .ref qM7, .ref qM8, .ref qM9, .ref qM10, .ref qM11, .ref qM12, .ref qM13, .int (nI lt), .int (nI en), .int (nI bl), .int (nI bn)])), (qM1, .inl (cI, 200, .inl (il5 hd bd ms dy vl))), (qM2, .inl (cI, 24, .inl hbt)), (qM3, .inl (cI, 100, .inl (il5 k0 k1 k2 k3 k4))), (qM4, .inl (cI, 7, .inl (fun k => nI (sn k)))), (qM5, .inl (cI, 56, .inl cor)), (qM6, .inl (cI, 40, .inl (fun k => nI (jn k)))), (qM7, .inl (cI, 24, .inl (fun k => nI (i4 cu se fi pr k)))), (qM8, .inl (cI, 20, .inl xx)), (qM9, .inl (cI, 20, .inl yy)), (qM10, .inl (cI, 7, .inl (fun k => nI (wn k)))), (qM11, .inl (cI, 7, .inl (fun k => nI (hn k)))), (qM12, .inl (cI, 7, .inl (fun k => nI (u k)))), (qM13, .inl (cI, 7, .inl (fun k => nI (be k))))]) u) t.heap) A) ([.ref qM, .int (nI n)] : List Value).toArray s 0 0 A) (F0 m 41 ls []) := by
              intro nn_6
              induction nn_6 with
              | zero => intro j z6_0 hj hjs ez6_0 H locs hP hD hS ls hl hn; exact absurd hn (Nat.not_lt_zero _)
              | succ nn_6 ih_6 =>
                intro j z6_0 hj hjs ez6_0 H locs hP hD hS ls hl hn_6
                subst ez6_0
                refine lv_aload_n hx hb dX6_nextOrder_41 rfl (lv_at hl 2 rfl) ?_
                refine va_get (D := G) (ci := 6) (v := .ref qM12) (C := RX6) (T := TX6) (N := 24) hx hb hts (fun _ h => List.mem_cons_of_mem _ (List.mem_append_right _ h)) hown hK.1 hP 0 rfl rfl 18 (by decide) (hts (.fieldLink RX6 50 "TailorHouseModel" "order" "[I") (List.mem_of_getElem? (i := 1) rfl)) (fun _ h9 => h9) rfl dX6_nextOrder_42 ?_
                refine lv_iload_n hx hb dX6_nextOrder_45 rfl (lv_at hl 0 rfl) ?_
                refine kx_ialdN hx hb hK.1 hP 12 rfl rfl j (by omega) (by decide) dX6_nextOrder_46 ?_
                refine lv_aload_n hx hb dX6_nextOrder_47 rfl (lv_at hl 2 rfl) ?_
                refine va_get (D := G) (ci := 6) (v := .ref qM12) (C := RX6) (T := TX6) (N := 24) hx hb hts (fun _ h => List.mem_cons_of_mem _ (List.mem_append_right _ h)) hown hK.1 hP 0 rfl rfl 18 (by decide) (hts (.fieldLink RX6 50 "TailorHouseModel" "order" "[I") (List.mem_of_getElem? (i := 1) rfl)) (fun _ h9 => h9) rfl dX6_nextOrder_48 ?_
                refine lv_iload_n hx hb dX6_nextOrder_51 rfl (lv_at hl 1 rfl) ?_
                refine kx_ialdN hx hb hK.1 hP 12 rfl rfl kq (by omega) (by decide) dX6_nextOrder_52 ?_
                have hb3 := hon j (by omega)
                refine kx_geN hx hb (on j) (on kq) (by omega) (by omega) (tgt := 62) dX6_nextOrder_53 (by decide) (fun c_7 => ?_) (fun c_7 => ?_)
                · skip
                  have hjs2 := hjs.symm.trans (kJs_e c_7)
                  refine lv_aload_n hx hb dX6_nextOrder_62 rfl (lv_at hl 2 rfl) ?_
                  refine lv_iload_n hx hb dX6_nextOrder_63 rfl (lv_at hl 1 rfl) ?_
                  refine lv_iload_n hx hb dX6_nextOrder_64 rfl (lv_at hl 0 rfl) ?_
                  refine kx_wv (va_runV (As := [.int (nI kq), .int (nI j)]) (rest := []) ⟨hx, hb, hml, hown, hts⟩ (c_X6_change l G cI cZ qM qM1 qM2 qM3 qM4 qM5 qM6 qM7 qM8 qM9 qM10 qM11 qM12 qM13 hd bd ms dy vl hbt k0 k1 k2 k3 k4 sn cor jn cu se fi pr xx yy wn hn on be told pts pcs sms wd ck nc lt en bl bn H.size kq j (by first | assumption | omega) (by first | assumption | omega)) (cwV 2 hts gX6_nextOrder_X6_change rfl rfl rfl (by decide +kernel) ⟨(Nat.le_of_ble_eq_true rfl), (Nat.le_of_ble_eq_true rfl)⟩) (kx_preW hK (kx_sub 0 14 hP rfl) (kx_subD 0 14 hD rfl) 0 rfl rfl) rfl rfl hl.1 rfl (lv_room (Nat.le_of_ble_eq_true rfl)) dX6_nextOrder_65 ⟨Nat.zero_le _, Nat.zero_le _⟩) hP hD hS hA 0 14 rfl (h_X6_change cI cZ qM qM1 qM2 qM3 qM4 qM5 qM6 qM7 qM8 qM9 qM10 qM11 qM12 qM13 hd bd ms dy vl hbt k0 k1 k2 k3 k4 sn cor jn cu se fi pr xx yy wn hn on be told pts pcs sms wd ck nc lt en bl bn) (fun u H locs hw_8 hP hD hS => ?_)
                  obtain ⟨on_8, rfl⟩ : ∃ z, z = u := ⟨_, rfl⟩
                  have hP : va_P G vwCl [(qM, .inr (6, [.int (nI told), .ref qM1, .ref qM2, .int (nI pts), .ref qM3, .int (nI pcs), .ref qM4, .ref qM5, .int (nI sms), .ref qM6, .int (nI wd), .int (nI ck), .int (nI nc), .ref qM7, .ref qM8, .ref qM9, .ref qM10, .ref qM11, .ref qM12, .ref qM13, .int (nI lt), .int (nI en), .int (nI bl), .int (nI bn)])), (qM1, .inl (cI, 200, .inl (il5 hd bd ms dy vl))), (qM2, .inl (cI, 24, .inl hbt)), (qM3, .inl (cI, 100, .inl (il5 k0 k1 k2 k3 k4))), (qM4, .inl (cI, 7, .inl (fun k => nI (sn k)))), (qM5, .inl (cI, 56, .inl cor)), (qM6, .inl (cI, 40, .inl (fun k => nI (jn k)))), (qM7, .inl (cI, 24, .inl (fun k => nI (i4 cu se fi pr k)))), (qM8, .inl (cI, 20, .inl xx)), (qM9, .inl (cI, 20, .inl yy)), (qM10, .inl (cI, 7, .inl (fun k => nI (wn k)))), (qM11, .inl (cI, 7, .inl (fun k => nI (hn k)))), (qM12, .inl (cI, 7, .inl (fun k => nI (on_8 k)))), (qM13, .inl (cI, 7, .inl (fun k => nI (be k))))] H := hP
                  have hD : va_D A [(qM, .inr (6, [.int (nI told), .ref qM1, .ref qM2, .int (nI pts), .ref qM3, .int (nI pcs), .ref qM4, .ref qM5, .int (nI sms), .ref qM6, .int (nI wd), .int (nI ck), .int (nI nc), .ref qM7, .ref qM8, .ref qM9, .ref qM10, .ref qM11, .ref qM12, .ref qM13, .int (nI lt), .int (nI en), .int (nI bl), .int (nI bn)])), (qM1, .inl (cI, 200, .inl (il5 hd bd ms dy vl))), (qM2, .inl (cI, 24, .inl hbt)), (qM3, .inl (cI, 100, .inl (il5 k0 k1 k2 k3 k4))), (qM4, .inl (cI, 7, .inl (fun k => nI (sn k)))), (qM5, .inl (cI, 56, .inl cor)), (qM6, .inl (cI, 40, .inl (fun k => nI (jn k)))), (qM7, .inl (cI, 24, .inl (fun k => nI (i4 cu se fi pr k)))), (qM8, .inl (cI, 20, .inl xx)), (qM9, .inl (cI, 20, .inl yy)), (qM10, .inl (cI, 7, .inl (fun k => nI (wn k)))), (qM11, .inl (cI, 7, .inl (fun k => nI (hn k)))), (qM12, .inl (cI, 7, .inl (fun k => nI (on_8 k)))), (qM13, .inl (cI, 7, .inl (fun k => nI (be k))))] := hD
                  have hw_8 : kSw on kq j = on_8 := hw_8
                  obtain rfl := hw_8
                  refine lv_iload_n hx hb dX6_nextOrder_68 rfl (lv_at hl 1 rfl) ?_
                  refine lv_iconst (v := 1) hx hb dX6_nextOrder_69 (by decide) ?_
                  refine kx_iaddN hx hb kq 1 dX6_nextOrder_70 ?_
                  refine lv_istore (lv' := [(4, .int (nI (kq + 1))), (3, .int (nI j)), (2, .int (nI kq)), (0, .ref qM), (1, .int (nI n))]) hx hb dX6_nextOrder_71 hl (by decide) rfl (fun ls hl => ?_)
                  refine lv_iload_n hx hb dX6_nextOrder_73 rfl (lv_at hl 4 rfl) ?_
                  refine lv_iconst (v := 1) hx hb dX6_nextOrder_74 (by decide) ?_
                  refine kx_isubN hx hb n 1 (by omega) dX6_nextOrder_75 ?_
                  refine lv_istore (lv' := [(5, .int (nI (n - 1))), (4, .int (nI (kq + 1))), (3, .int (nI j)), (2, .int (nI kq)), (0, .ref qM), (1, .int (nI n))]) hx hb dX6_nextOrder_76 hl (by decide) rfl (fun ls hl => ?_)
                  have lab_78_9 : ∀ (nn_9 : Nat) (g : Nat → Nat) (lo : Nat) (hi2 : Nat) (d : Nat) (z9_0 : Nat) (z9_1 : Nat) (z9_2 : Nat → Int32) (hlh : kq + 1 ≤ lo ∧ hi2 ≤ n - 1 ∧ hi2 ≤ lo + d ∧ lo ≤ n) (hrv : kRv d g lo hi2 = kRv n (kSw on kq j) (kq + 1) (n - 1)) (ez9_0 : lo = z9_0) (ez9_1 : hi2 = z9_1) (ez9_2 : (fun k => nI (g k)) = z9_2) (H : Heap) (locs : List Loc) (hP : va_P G vwCl [(qM, .inr (6, [.int (nI told), .ref qM1, .ref qM2, .int (nI pts), .ref qM3, .int (nI pcs), .ref qM4, .ref qM5, .int (nI sms), .ref qM6, .int (nI wd), .int (nI ck), .int (nI nc), .ref qM7, .ref qM8, .ref qM9, .ref qM10, .ref qM11, .ref qM12, .ref qM13, .int (nI lt), .int (nI en), .int (nI bl), .int (nI bn)])), (qM1, .inl (cI, 200, .inl (il5 hd bd ms dy vl))), (qM2, .inl (cI, 24, .inl hbt)), (qM3, .inl (cI, 100, .inl (il5 k0 k1 k2 k3 k4))), (qM4, .inl (cI, 7, .inl (fun k => nI (sn k)))), (qM5, .inl (cI, 56, .inl cor)), (qM6, .inl (cI, 40, .inl (fun k => nI (jn k)))), (qM7, .inl (cI, 24, .inl (fun k => nI (i4 cu se fi pr k)))), (qM8, .inl (cI, 20, .inl xx)), (qM9, .inl (cI, 20, .inl yy)), (qM10, .inl (cI, 7, .inl (fun k => nI (wn k)))), (qM11, .inl (cI, 7, .inl (fun k => nI (hn k)))), (qM12, .inl (cI, 7, .inl z9_2)), (qM13, .inl (cI, 7, .inl (fun k => nI (be k))))] H) (hD : va_D A [(qM, .inr (6, [.int (nI told), .ref qM1, .ref qM2, .int (nI pts), .ref qM3, .int (nI pcs), .ref qM4, .ref qM5, .int (nI sms), .ref qM6, .int (nI wd), .int (nI ck), .int (nI nc), .ref qM7, .ref qM8, .ref qM9, .ref qM10, .ref qM11, .ref qM12, .ref qM13, .int (nI lt), .int (nI en), .int (nI bl), .int (nI bn)])), (qM1, .inl (cI, 200, .inl (il5 hd bd ms dy vl))), (qM2, .inl (cI, 24, .inl hbt)), (qM3, .inl (cI, 100, .inl (il5 k0 k1 k2 k3 k4))), (qM4, .inl (cI, 7, .inl (fun k => nI (sn k)))), (qM5, .inl (cI, 56, .inl cor)), (qM6, .inl (cI, 40, .inl (fun k => nI (jn k)))), (qM7, .inl (cI, 24, .inl (fun k => nI (i4 cu se fi pr k)))), (qM8, .inl (cI, 20, .inl xx)), (qM9, .inl (cI, 20, .inl yy)), (qM10, .inl (cI, 7, .inl (fun k => nI (wn k)))), (qM11, .inl (cI, 7, .inl (fun k => nI (hn k)))), (qM12, .inl (cI, 7, .inl z9_2)), (qM13, .inl (cI, 7, .inl (fun k => nI (be k))))]) (hS : va_S A s.heap H locs) (ls : Array Slot) (hl : lv_has ls 6 [(5, .int (nI z9_1)), (4, .int (nI z9_0)), (3, .int (nI j)), (2, .int (nI kq)), (0, .ref qM), (1, .int (nI n))]), hi2 < nn_9 → W p l e (headSpec wsX6_nextOrder rm_X6_nextOrder).room s m ([.ref qM, .int (nI n)] : List Value).toArray below meth c H locs 0 0 (MQ below (va_Qi (fun (r : Int32) (u : (Nat → Nat)) => if kPv on (n - 1) = 0 then r = 0 ∧ u = on else r = 1 ∧ u = kNO n on) (fun u t => va_P G vwCl ((fun u : (Nat → Nat) => [(qM, .inr (6, [.int (nI told), .ref qM1, .ref qM2, .int (nI pts), .ref qM3, .int (nI pcs), .ref qM4, .ref qM5, .int (nI sms), .ref qM6, .int (nI wd), .int (nI ck), .int (nI nc), .ref qM7, .ref qM8, .ref qM9, .ref qM10, .ref qM11, .ref qM12, .ref qM13, .int (nI lt), .int (nI en), .int (nI bl), .int (nI bn)])), (qM1, .inl (cI, 200, .inl (il5 hd bd ms dy vl))), (qM2, .inl (cI, 24, .inl hbt)), (qM3, .inl (cI, 100, .inl (il5 k0 k1 k2 k3 k4))), (qM4, .inl (cI, 7, .inl (fun k => nI (sn k)))), (qM5, .inl (cI, 56, .inl cor)), (qM6, .inl (cI, 40, .inl (fun k => nI (jn k)))), (qM7, .inl (cI, 24, .inl (fun k => nI (i4 cu se fi pr k)))), (qM8, .inl (cI, 20, .inl xx)), (qM9, .inl (cI, 20, .inl yy)), (qM10, .inl (cI, 7, .inl (fun k => nI (wn k)))), (qM11, .inl (cI, 7, .inl (fun k => nI (hn k)))), (qM12, .inl (cI, 7, .inl (fun k => nI (u k)))), (qM13, .inl (cI, 7, .inl (fun k => nI (be k))))]) u) t.heap) A) ([.ref qM, .int (nI n)] : List Value).toArray s 0 0 A) (F0 m 78 ls []) := by
                    intro nn_9
                    induction nn_9 with
                    | zero => intro g lo hi2 d z9_0 z9_1 z9_2 hlh hrv ez9_0 ez9_1 ez9_2 H locs hP hD hS ls hl hn; exact absurd hn (Nat.not_lt_zero _)
                    | succ nn_9 ih_9 =>
                      intro g lo hi2 d z9_0 z9_1 z9_2 hlh hrv ez9_0 ez9_1 ez9_2 H locs hP hD hS ls hl hn_9
                      subst ez9_0
                      subst ez9_1
                      subst ez9_2
                      refine lv_iload hx hb dX6_nextOrder_78 (lv_at hl 1 rfl) ?_
                      refine lv_iload hx hb dX6_nextOrder_80 (lv_at hl 0 rfl) ?_
                      refine kx_geN hx hb lo hi2 (by omega) (by omega) (tgt := 102) dX6_nextOrder_82 (by decide) (fun c_10 => ?_) (fun c_10 => ?_)
                      · skip
                        refine lv_iconst (v := 1) hx hb dX6_nextOrder_102 (by decide) ?_
                        exact W.zret (v := 1) hx hb hr (rfl) (fun t ht hW => ⟨⟨1, g, rfl, by show ite _ _ _; rw [if_neg (by rw [hpv2]; exact Nat.succ_ne_zero _)]; exact ⟨rfl, kNO_e hpv2 hjs2 hrv c_10⟩, by (show va_P G vwCl _ t.heap; rw [ht]; exact hP)⟩, hS.F ht⟩) hS.2.2 dX6_nextOrder_103 hlocks
                      · skip
                        refine lv_aload_n hx hb dX6_nextOrder_85 rfl (lv_at hl 4 rfl) ?_
                        refine lv_iload hx hb dX6_nextOrder_86 (lv_at hl 1 rfl) ?_
                        refine lv_iload hx hb dX6_nextOrder_88 (lv_at hl 0 rfl) ?_
                        refine kx_wv (va_runV (As := [.int (nI lo), .int (nI hi2)]) (rest := []) ⟨hx, hb, hml, hown, hts⟩ (c_X6_change l G cI cZ qM qM1 qM2 qM3 qM4 qM5 qM6 qM7 qM8 qM9 qM10 qM11 qM12 qM13 hd bd ms dy vl hbt k0 k1 k2 k3 k4 sn cor jn cu se fi pr xx yy wn hn g be told pts pcs sms wd ck nc lt en bl bn H.size lo hi2 (by first | assumption | omega) (by first | assumption | omega)) (cwV 2 hts gX6_nextOrder_X6_change rfl rfl rfl (by decide +kernel) ⟨(Nat.le_of_ble_eq_true rfl), (Nat.le_of_ble_eq_true rfl)⟩) (kx_preW hK (kx_sub 0 14 hP rfl) (kx_subD 0 14 hD rfl) 0 rfl rfl) rfl rfl hl.1 rfl (lv_room (Nat.le_of_ble_eq_true rfl)) dX6_nextOrder_90 ⟨Nat.zero_le _, Nat.zero_le _⟩) hP hD hS hA 0 14 rfl (h_X6_change cI cZ qM qM1 qM2 qM3 qM4 qM5 qM6 qM7 qM8 qM9 qM10 qM11 qM12 qM13 hd bd ms dy vl hbt k0 k1 k2 k3 k4 sn cor jn cu se fi pr xx yy wn hn g be told pts pcs sms wd ck nc lt en bl bn) (fun u H locs hw_11 hP hD hS => ?_)
                        obtain ⟨on_11, rfl⟩ : ∃ z, z = u := ⟨_, rfl⟩
                        have hP : va_P G vwCl [(qM, .inr (6, [.int (nI told), .ref qM1, .ref qM2, .int (nI pts), .ref qM3, .int (nI pcs), .ref qM4, .ref qM5, .int (nI sms), .ref qM6, .int (nI wd), .int (nI ck), .int (nI nc), .ref qM7, .ref qM8, .ref qM9, .ref qM10, .ref qM11, .ref qM12, .ref qM13, .int (nI lt), .int (nI en), .int (nI bl), .int (nI bn)])), (qM1, .inl (cI, 200, .inl (il5 hd bd ms dy vl))), (qM2, .inl (cI, 24, .inl hbt)), (qM3, .inl (cI, 100, .inl (il5 k0 k1 k2 k3 k4))), (qM4, .inl (cI, 7, .inl (fun k => nI (sn k)))), (qM5, .inl (cI, 56, .inl cor)), (qM6, .inl (cI, 40, .inl (fun k => nI (jn k)))), (qM7, .inl (cI, 24, .inl (fun k => nI (i4 cu se fi pr k)))), (qM8, .inl (cI, 20, .inl xx)), (qM9, .inl (cI, 20, .inl yy)), (qM10, .inl (cI, 7, .inl (fun k => nI (wn k)))), (qM11, .inl (cI, 7, .inl (fun k => nI (hn k)))), (qM12, .inl (cI, 7, .inl (fun k => nI (on_11 k)))), (qM13, .inl (cI, 7, .inl (fun k => nI (be k))))] H := hP
                        have hD : va_D A [(qM, .inr (6, [.int (nI told), .ref qM1, .ref qM2, .int (nI pts), .ref qM3, .int (nI pcs), .ref qM4, .ref qM5, .int (nI sms), .ref qM6, .int (nI wd), .int (nI ck), .int (nI nc), .ref qM7, .ref qM8, .ref qM9, .ref qM10, .ref qM11, .ref qM12, .ref qM13, .int (nI lt), .int (nI en), .int (nI bl), .int (nI bn)])), (qM1, .inl (cI, 200, .inl (il5 hd bd ms dy vl))), (qM2, .inl (cI, 24, .inl hbt)), (qM3, .inl (cI, 100, .inl (il5 k0 k1 k2 k3 k4))), (qM4, .inl (cI, 7, .inl (fun k => nI (sn k)))), (qM5, .inl (cI, 56, .inl cor)), (qM6, .inl (cI, 40, .inl (fun k => nI (jn k)))), (qM7, .inl (cI, 24, .inl (fun k => nI (i4 cu se fi pr k)))), (qM8, .inl (cI, 20, .inl xx)), (qM9, .inl (cI, 20, .inl yy)), (qM10, .inl (cI, 7, .inl (fun k => nI (wn k)))), (qM11, .inl (cI, 7, .inl (fun k => nI (hn k)))), (qM12, .inl (cI, 7, .inl (fun k => nI (on_11 k)))), (qM13, .inl (cI, 7, .inl (fun k => nI (be k))))] := hD
                        have hw_11 : kSw g lo hi2 = on_11 := hw_11
                        obtain rfl := hw_11
                        refine lv_iinc (v := nI (lo + 1)) (lv' := [(4, .int (nI (lo + 1))), (5, .int (nI hi2)), (3, .int (nI j)), (2, .int (nI kq)), (0, .ref qM), (1, .int (nI n))]) hx hb dX6_nextOrder_93 hl (k := 1) rfl (nI_1 lo) (by decide) rfl (fun ls hl => ?_)
                        refine lv_iinc (v := nI (hi2 - 1)) (lv' := [(5, .int (nI (hi2 - 1))), (4, .int (nI (lo + 1))), (3, .int (nI j)), (2, .int (nI kq)), (0, .ref qM), (1, .int (nI n))]) hx hb dX6_nextOrder_96 hl (k := 1) rfl (kx_dec (by omega)) (by decide) rfl (fun ls hl => ?_)
                        refine lv_goto (tgt := 78) hx hb dX6_nextOrder_99 (by decide) ?_
                        exact ih_9 (kSw g lo hi2) (lo + 1) (hi2 - 1) (d - 1) (lo + 1) (hi2 - 1) (fun k => nI ((kSw g lo hi2) k)) (by omega) ((kRv_s (by omega) c_10).trans hrv) rfl rfl rfl _ _ hP hD hS ls (lv_sub hl [0, 1, 2, 3, 4, 5] rfl) (by omega)
                  exact lab_78_9 (((n - 1)) + 1) (kSw on kq j) (kq + 1) (n - 1) n (kq + 1) (n - 1) (fun k => nI ((kSw on kq j) k)) (by omega) (rfl) rfl rfl rfl _ _ hP hD hS ls (lv_sub hl [0, 1, 2, 3, 4, 5] rfl) (Nat.lt_succ_self _)
                · skip
                  have hjk := kJs_lt hj.1 c_7
                  refine lv_iinc (v := nI (j - 1)) (lv' := [(3, .int (nI (j - 1))), (2, .int (nI kq)), (0, .ref qM), (1, .int (nI n))]) hx hb dX6_nextOrder_56 hl (k := 0) rfl (kx_dec (by omega)) (by decide) rfl (fun ls hl => ?_)
                  refine lv_goto (tgt := 41) hx hb dX6_nextOrder_59 (by decide) ?_
                  exact ih_6 (j - 1) (j - 1) (by omega) ((kJs_s (by omega) c_7).trans hjs) rfl _ _ hP hD hS ls (lv_sub hl [0, 1, 2, 3] rfl) (by omega)
            exact lab_41_6 (((n - 1)) + 1) (n - 1) (n - 1) (by omega) (rfl) rfl _ _ hP hD hS ls (lv_sub hl [0, 1, 2, 3] rfl) (Nat.lt_succ_self _)
          · exact absurd (Int32.not_lt.mp (nI_pos (show kq < 2 ^ 31 by omega))) c_5
        · skip
          refine lv_iinc (v := nI kq + (-1)) (lv' := [(2, .int (nI kq + (-1))), (0, .ref qM), (1, .int (nI n))]) hx hb dX6_nextOrder_25 hl (k := 0) rfl (rfl) (by decide) rfl (fun ls hl => ?_)
          refine lv_goto (tgt := 4) hx hb dX6_nextOrder_28 (by decide) ?_
          exact ih_1 (nI kq + (-1)) kq (nI kq + (-1)) (by omega) (kKz_3 (by omega)) ((kPv_s hkq.1 c_4).trans hpv) rfl _ _ hP hD hS ls (lv_sub hl [0, 1, 2] rfl) (by omega)
  exact lab_4_1 (((n - 1)) + 1) ((nI n) - 2) (n - 1) ((nI n) - 2) (by omega) ((kKz_0 n hn7).symm) (rfl) rfl _ _ hP hD hS ls (lv_sub hl [0, 1, 2] rfl) (Nat.lt_succ_self _)
