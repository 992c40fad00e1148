/-! pieces and seams, as numbers -/
def kNx (n i : Nat) : Nat := if i + 1 < n then i + 1 else 0
def kSide (xx yy : Nat → Int32) (f t : Int32) : Int32 :=
  kroot (100 * ((xx t.toNatClampNeg - xx f.toNatClampNeg).toInt64 * (xx t.toNatClampNeg - xx f.toNatClampNeg).toInt64 + (yy t.toNatClampNeg - yy f.toNatClampNeg).toInt64 * (yy t.toNatClampNeg - yy f.toNatClampNeg).toInt64))
def kLen (xx yy cor : Nat → Int32) (sn : Nat → Nat) (k i : Nat) : Int32 := kSide xx yy (cor (k * 8 + i)) (cor (k * 8 + kNx (sn k) i))
def kAr (xx yy cor : Nat → Int32) (sn : Nat → Nat) (k : Nat) : Nat → Int64
  | 0 => 0
  | i + 1 => kAr xx yy cor sn k i + ((xx (cor (k * 8 + i)).toNatClampNeg).toInt64 * (yy (cor (k * 8 + kNx (sn k) i)).toNatClampNeg).toInt64 - (xx (cor (k * 8 + kNx (sn k) i)).toNatClampNeg).toInt64 * (yy (cor (k * 8 + i)).toNatClampNeg).toInt64)
def kArea (xx yy cor : Nat → Int32) (sn : Nat → Nat) (k : Nat) : Int64 := if 0 < kAr xx yy cor sn k (sn k) then kAr xx yy cor sn k (sn k) else -kAr xx yy cor sn k (sn k)
def kDf (xx yy cor : Nat → Int32) (sn jn : Nat → Nat) (i : Nat) : Int32 := kLen xx yy cor sn (jn (i * 4)) (jn (i * 4 + 1)) - kLen xx yy cor sn (jn (i * 4 + 2)) (jn (i * 4 + 3))
abbrev kGp (xx yy cor : Nat → Int32) (sn jn : Nat → Nat) (al : Int32) (i : Nat) : Prop := al < (if 0 ≤ kDf xx yy cor sn jn i then kDf xx yy cor sn jn i else 0 - kDf xx yy cor sn jn i)
def kGap (xx yy cor : Nat → Int32) (sn jn : Nat → Nat) (al : Int32) : Nat → Int32
  | 0 => -1
  | i + 1 => if kGap xx yy cor sn jn al i = -1 then (if kGp xx yy cor sn jn al i then nI i else -1) else kGap xx yy cor sn jn al i
theorem kx_m1 : (-1 : Int32).toInt = -1 := by decide +kernel
theorem kGap_s {xx yy cor : Nat → Int32} {sn jn : Nat → Nat} {al : Int32} {i : Nat} (h : kGap xx yy cor sn jn al i = -1) (hp : ¬ kGp xx yy cor sn jn al i) : kGap xx yy cor sn jn al (i + 1) = -1 := by
  rw [kGap, if_pos h, if_neg hp]
theorem kGap_f {xx yy cor : Nat → Int32} {sn jn : Nat → Nat} {al : Int32} {i : Nat} (h : kGap xx yy cor sn jn al i = -1) (hp : kGp xx yy cor sn jn al i) (n : Nat) (hin : i < n) (hn : n < 2 ^ 31) : kGap xx yy cor sn jn al n = nI i := by
  induction n with
  | zero => omega
  | succ n ih =>
    by_cases hi : i = n
    · subst hi
      rw [kGap, if_pos h, if_pos hp]
    · have e := ih (by omega) (by omega)
      have hne : ¬ kGap xx yy cor sn jn al n = -1 := by
        rw [e]
        intro q
        have h1 := nI_toInt (n := i) (by omega)
        rw [q, kx_m1] at h1
        omega
      rw [kGap, if_neg hne, e]
def kPWi (cor : Nat → Int32) (pb : Int32) (k : Nat) : Nat → Int32 → Int32
  | 0, b => b
  | i + 1, b => if (pb >>> (cor (k * 8 + i) &&& 31)) &&& 1 = 1 then kPWi cor pb k i b ||| 1 <<< (nI k &&& 31) else kPWi cor pb k i b
def kPW (cor : Nat → Int32) (sn : Nat → Nat) (pb : Int32) : Nat → Int32
  | 0 => 0
  | k + 1 => kPWi cor pb k (sn k) (kPW cor sn pb k)
def kLo (pl cor : Nat → Int32) (k : Nat) : Nat → Int32
  | 0 => pl (cor (k * 8 + 0)).toNatClampNeg
  | i + 1 => if pl (cor (k * 8 + (i + 1))).toNatClampNeg < kLo pl cor k i then pl (cor (k * 8 + (i + 1))).toNatClampNeg else kLo pl cor k i
def kHi (pl cor : Nat → Int32) (k : Nat) : Nat → Int32
  | 0 => pl (cor (k * 8 + 0)).toNatClampNeg
  | i + 1 => if kHi pl cor k i < pl (cor (k * 8 + (i + 1))).toNatClampNeg then pl (cor (k * 8 + (i + 1))).toNatClampNeg else kHi pl cor k i
def kRoom (pl cor : Nat → Int32) (sn : Nat → Nat) (k : Nat) : Int32 := if kHi pl cor k (sn k - 1) - kLo pl cor k (sn k - 1) < 1 then 1 else kHi pl cor k (sn k - 1) - kLo pl cor k (sn k - 1)
def kXPi (cor : Nat → Int32) (k : Nat) : Nat → Int64 → Int64
  | 0, h => h
  | i + 1, h => kmix (kXPi cor k i h) (cor (k * 8 + i)).toInt64
def kXP (cor : Nat → Int32) (sn : Nat → Nat) : Nat → Int64 → Int64
  | 0, h => h
  | k + 1, h => kXPi cor k (sn k) (kmix (kXP cor sn k h) (nI (sn k)).toInt64)
def kXS (jn : Nat → Nat) : Nat → Int64 → Int64
  | 0, h => h
  | i + 1, h => kmix (kXS jn i h) (nI (jn i)).toInt64
/-- a number from 0 to the last -/
theorem kx_has {v : Int32} {n : Nat} (h : 0 ≤ v ∧ v ≤ nI n - 1) (hn : n < 2 ^ 30) : ∃ j : Nat, j < n ∧ v = nI j := by
  obtain ⟨h0, h1⟩ := h
  rw [Int32.le_iff_toInt_le] at h0 h1
  rw [show (1 : Int32) = nI 1 from rfl, pk_sub_toInt (by omega) (by decide)] at h1
  have e0 : (0 : Int32).toInt = 0 := by decide
  refine ⟨v.toInt.toNat, by omega, Int32.toInt_inj.mp ?_⟩
  rw [nI_toInt (by omega)]
  omega
theorem kx_hasin {v : Int32} {n N : Nat} (h : 0 ≤ v ∧ v ≤ nI n - 1) (hn : n ≤ N) (hN : N < 2 ^ 30) : vp_in v N := by
  obtain ⟨j, hj, rfl⟩ := kx_has h (by omega)
  exact vp_in_nI (by omega) (by omega)
theorem kNx_lt {n i : Nat} (h : i < n) : kNx n i < n := by
  unfold kNx
  split <;> omega
abbrev rm_X1_has : Room := { frames := 1, cells := 0, slots := 0, locals := 22 }
set_option maxHeartbeats 4000000 in
set_option maxRecDepth 100000 in
theorem c_X1_has (l : Launch) (G : va_G) (cI cZ : ClassId) (qP : Nat) (qD : Nat) (qP1 : Nat) (qP2 : Nat) (qP3 : Nat) (sn : Nat → Nat) (cor : Nat → Int32) (jn : Nat → Nat) (pcs : Nat) (sms : Nat) (v : Int32) : Met l yX1_has wsX1_has rm_X1_has (kx_Pr G cI cZ [(qP, .inr (1, [.ref qD, .ref qP1, .ref qP2, .ref qP3, .int (nI pcs), .int (nI sms)])), (qP1, .inl (cI, 7, .inl (fun k => nI (sn k)))), (qP2, .inl (cI, 56, .inl cor)), (qP3, .inl (cI, 40, .inl (fun k => nI (jn k))))] [.ref qP, .int v]) (QcRead (kb (0 ≤ v ∧ v ≤ nI pcs - 1))) 0 0 (fun _ => False) := by
  refine Met.ofW (cc := cX1_has) (maxL := 2) (ret := (some .boolean)) (by decide) rfl ?_
  intro p e s m args below meth c s₁ B hml hv
  obtain ⟨rfl, hP, hK⟩ := hv
  have hx := B.exec
  have hb := B.bytes
  have hr := B.returns
  have hts := atoms_spec (ws := wsX1_has) B.pre
  have hown : s.vm.findClass RX1 = some m.cls := findClass_of_methodNamed B.named
  have hlocks := B.notSynchronized
  have hl := lv_entry ([.ref qP, .int v]) (n := 2) (Nat.le_of_ble_eq_true rfl)
  rw [lg_entry_eq]
  generalize (lg_sl ([.ref qP, .int v]) ++ List.replicate (2 - (lg_sl ([.ref qP, .int v])).length) Slot.unset).toArray = ls at hl ⊢
  have hl : lv_has ls 2 [(0, .ref qP), (1, .int v)] := hl
  refine lv_iload_n hx hb dX1_has_0 rfl (lv_at hl 1 rfl) ?_
  refine lv_iconst (v := 0) hx hb dX1_has_1 (by decide) ?_
  refine lv_aload_n hx hb dX1_has_2 rfl (lv_at hl 0 rfl) ?_
  refine va_get (D := G) (ci := 1) (v := .int (nI pcs)) (C := RX1) (T := TX1) (N := 6) hx hb hts (fun _ h => List.mem_cons_of_mem _ (List.mem_append_right _ h)) hown hK.1 hP 0 rfl rfl 4 (by decide) (hts (.fieldLink RX1 21 "TailorHouse$Pattern" "pieces" "I") (List.mem_of_getElem? (i := 1) rfl)) (fun _ h9 => h9) rfl dX1_has_3 ?_
  refine lv_iconst (v := 1) hx hb dX1_has_6 (by decide) ?_
  refine lv_isub hx hb dX1_has_7 ?_
  refine kx_ri (va_runSN (As := [.int v, .int 0, .int ((nI pcs) - 1)]) (rest := []) ⟨hx, hb, hml, hown, hts⟩ (c_X5_within l v 0 ((nI pcs) - 1)) ⟨va_cnB 3 hts gX1_has_X5_within_n32 rfl rfl rfl (hK.2 _ (List.mem_of_getElem? (i := 20) rfl)) (hts (.initialized RX5) (List.mem_of_getElem? (i := 3) rfl)) (by decide +kernel) ⟨(Nat.le_of_ble_eq_true rfl), (Nat.le_of_ble_eq_true rfl)⟩, (hts (.static yX5_within) (List.mem_of_getElem? (i := 2) rfl)), trivial⟩ kx_preS rfl rfl hl.1 rfl (lv_room (Nat.le_of_ble_eq_true rfl)) dX1_has_8 ⟨Nat.zero_le _, Nat.zero_le _⟩) ?_
  exact kx_zret hx hb hr (v := (kb (0 ≤ v ∧ v ≤ ((nI pcs) - 1)))) (by simp []) dX1_has_11 hlocks
abbrev rm_X1_hasSide : Room := { frames := 2, cells := 0, slots := 0, locals := 43 }
set_option maxHeartbeats 4000000 in
set_option maxRecDepth 100000 in
theorem c_X1_hasSide (l : Launch) (G : va_G) (cI cZ : ClassId) (qP : Nat) (qD : Nat) (qP1 : Nat) (qP2 : Nat) (qP3 : Nat) (sn : Nat → Nat) (cor : Nat → Int32) (jn : Nat → Nat) (pcs : Nat) (sms : Nat) (v : Int32) (w : Int32) (hpc : pcs ≤ 7) : Met l yX1_hasSide wsX1_hasSide rm_X1_hasSide (kx_Pr G cI cZ [(qP, .inr (1, [.ref qD, .ref qP1, .ref qP2, .ref qP3, .int (nI pcs), .int (nI sms)])), (qP1, .inl (cI, 7, .inl (fun k => nI (sn k)))), (qP2, .inl (cI, 56, .inl cor)), (qP3, .inl (cI, 40, .inl (fun k => nI (jn k))))] [.ref qP, .int v, .int w]) (QcRead (kb ((0 ≤ v ∧ v ≤ nI pcs - 1) ∧ 0 ≤ w ∧ w ≤ nI (sn v.toNatClampNeg) - 1))) 0 0 (fun _ => False) := by
  refine Met.ofW (cc := cX1_hasSide) (maxL := 3) (ret := (some .boolean)) (by decide) rfl ?_
  intro p e s m args below meth c s₁ B hml hv
  obtain ⟨rfl, hP, hK⟩ := hv
  have hx := B.exec
  have hb := B.bytes
  have hr := B.returns
  have hts := atoms_spec (ws := wsX1_hasSide) B.pre
  have hown : s.vm.findClass RX1 = some m.cls := findClass_of_methodNamed B.named
  have hlocks := B.notSynchronized
  have hl := lv_entry ([.ref qP, .int v, .int w]) (n := 3) (Nat.le_of_ble_eq_true rfl)
  rw [lg_entry_eq]
  generalize (lg_sl ([.ref qP, .int v, .int w]) ++ List.replicate (3 - (lg_sl ([.ref qP, .int v, .int w])).length) Slot.unset).toArray = ls at hl ⊢
  have hl : lv_has ls 3 [(0, .ref qP), (1, .int v), (2, .int w)] := hl
  refine lv_aload_n hx hb dX1_hasSide_0 rfl (lv_at hl 0 rfl) ?_
  refine lv_iload_n hx hb dX1_hasSide_1 rfl (lv_at hl 1 rfl) ?_
  refine kx_ri (va_runV (As := [.int v]) (rest := []) ⟨hx, hb, hml, hown, hts⟩ (c_X1_has l G cI cZ qP qD qP1 qP2 qP3 sn cor jn pcs sms v) (cwV 1 hts gX1_hasSide_X1_has rfl rfl rfl (by decide +kernel) ⟨(Nat.le_of_ble_eq_true rfl), (Nat.le_of_ble_eq_true rfl)⟩) (kx_preR hK (kx_sub 0 4 hP rfl) 0 rfl rfl) rfl rfl hl.1 rfl (lv_room (Nat.le_of_ble_eq_true rfl)) dX1_hasSide_2 ⟨Nat.zero_le _, Nat.zero_le _⟩) ?_
  refine kx_ifeqB hx hb (0 ≤ v ∧ v ≤ nI pcs - 1) (tgt := 28) dX1_hasSide_5 (by decide) (fun c_1 => ?_) (fun c_1 => ?_)
  · skip
    refine lv_iconst (v := 0) hx hb dX1_hasSide_28 (by decide) ?_
    exact kx_zret hx hb hr (v := 0) (by simp [kb, c_1]) dX1_hasSide_29 hlocks
  · skip
    refine lv_iload_n hx hb dX1_hasSide_8 rfl (lv_at hl 2 rfl) ?_
    refine lv_iconst (v := 0) hx hb dX1_hasSide_9 (by decide) ?_
    refine lv_aload_n hx hb dX1_hasSide_10 rfl (lv_at hl 0 rfl) ?_
    refine va_get (D := G) (ci := 1) (v := .ref qP1) (C := RX1) (T := TX1) (N := 6) hx hb hts (fun _ h => List.mem_cons_of_mem _ (List.mem_append_right _ h)) hown hK.1 hP 0 rfl rfl 1 (by decide) (hts (.fieldLink RX1 9 "TailorHouse$Pattern" "sizes" "[I") (List.mem_of_getElem? (i := 1) rfl)) (fun _ h9 => h9) rfl dX1_hasSide_11 ?_
    refine lv_iload_n hx hb dX1_hasSide_14 rfl (lv_at hl 1 rfl) ?_
    refine va_iald hx hb hK.1 hP 1 0 rfl rfl (kx_hasin c_1 hpc (by decide)) dX1_hasSide_15 ?_
    refine lv_iconst (v := 1) hx hb dX1_hasSide_16 (by decide) ?_
    refine lv_isub hx hb dX1_hasSide_17 ?_
    refine kx_ri (va_runSN (As := [.int w, .int 0, .int ((nI (sn v.toNatClampNeg)) - 1)]) (rest := []) ⟨hx, hb, hml, hown, hts⟩ (c_X5_within l w 0 ((nI (sn v.toNatClampNeg)) - 1)) ⟨va_cnB 3 hts gX1_hasSide_X5_within_n32 rfl rfl rfl (hK.2 _ (List.mem_of_getElem? (i := 20) rfl)) (hts (.initialized RX5) (List.mem_of_getElem? (i := 9) rfl)) (by decide +kernel) ⟨(Nat.le_of_ble_eq_true rfl), (Nat.le_of_ble_eq_true rfl)⟩, (hts (.static yX5_within) (List.mem_of_getElem? (i := 8) rfl)), trivial⟩ kx_preS rfl rfl hl.1 rfl (lv_room (Nat.le_of_ble_eq_true rfl)) dX1_hasSide_18 ⟨Nat.zero_le _, Nat.zero_le _⟩) ?_
    refine kx_ifeqB hx hb (0 ≤ w ∧ w ≤ ((nI (sn v.toNatClampNeg)) - 1)) (tgt := 28) dX1_hasSide_21 (by decide) (fun c_2 => ?_) (fun c_2 => ?_)
    · skip
      refine lv_iconst (v := 0) hx hb dX1_hasSide_28 (by decide) ?_
      exact kx_zret hx hb hr (v := 0) (by simp [kb, c_1, c_2]) dX1_hasSide_29 hlocks
    · skip
      refine lv_iconst (v := 1) hx hb dX1_hasSide_24 (by decide) ?_
      refine lv_goto (tgt := 29) hx hb dX1_hasSide_25 (by decide) ?_
      exact kx_zret hx hb hr (v := 1) (by simp [kb, c_1, c_2]) dX1_hasSide_29 hlocks
abbrev rm_X1_corner : Room := { frames := 0, cells := 0, slots := 0, locals := 0 }
set_option maxHeartbeats 4000000 in
set_option maxRecDepth 100000 in
theorem c_X1_corner (l : Launch) (G : va_G) (cI cZ : ClassId) (qP : Nat) (qD : Nat) (qP1 : Nat) (qP2 : Nat) (qP3 : Nat) (sn : Nat → Nat) (cor : Nat → Int32) (jn : Nat → Nat) (pcs : Nat) (sms : Nat) (kk : Nat) (i : Nat) (hk : kk < 7) (hi : i < 8) : Met l yX1_corner wsX1_corner rm_X1_corner (kx_Pr G cI cZ [(qP, .inr (1, [.ref qD, .ref qP1, .ref qP2, .ref qP3, .int (nI pcs), .int (nI sms)])), (qP1, .inl (cI, 7, .inl (fun k => nI (sn k)))), (qP2, .inl (cI, 56, .inl cor)), (qP3, .inl (cI, 40, .inl (fun k => nI (jn k))))] [.ref qP, .int (nI kk), .int (nI i)]) (QcRead (cor (kk * 8 + i))) 0 0 (fun _ => False) := by
  refine Met.ofW (cc := cX1_corner) (maxL := 3) (ret := (some .int)) (by decide) rfl ?_
  intro p e s m args below meth c s₁ B hml hv
  obtain ⟨rfl, hP, hK⟩ := hv
  have hx := B.exec
  have hb := B.bytes
  have hr := B.returns
  have hts := atoms_spec (ws := wsX1_corner) B.pre
  have hown : s.vm.findClass RX1 = some m.cls := findClass_of_methodNamed B.named
  have hlocks := B.notSynchronized
  have hl := lv_entry ([.ref qP, .int (nI kk), .int (nI i)]) (n := 3) (Nat.le_of_ble_eq_true rfl)
  rw [lg_entry_eq]
  generalize (lg_sl ([.ref qP, .int (nI kk), .int (nI i)]) ++ List.replicate (3 - (lg_sl ([.ref qP, .int (nI kk), .int (nI i)])).length) Slot.unset).toArray = ls at hl ⊢
  have hl : lv_has ls 3 [(0, .ref qP), (1, .int (nI kk)), (2, .int (nI i))] := hl
  refine lv_aload_n hx hb dX1_corner_0 rfl (lv_at hl 0 rfl) ?_
  refine va_get (D := G) (ci := 1) (v := .ref qP2) (C := RX1) (T := TX1) (N := 6) hx hb hts (fun _ h => List.mem_cons_of_mem _ (List.mem_append_right _ h)) hown hK.1 hP 0 rfl rfl 2 (by decide) (hts (.fieldLink RX1 15 "TailorHouse$Pattern" "corners" "[I") (List.mem_of_getElem? (i := 1) rfl)) (fun _ h9 => h9) rfl dX1_corner_1 ?_
  refine lv_iload_n hx hb dX1_corner_4 rfl (lv_at hl 1 rfl) ?_
  refine lv_bipush (v := 8) hx hb dX1_corner_5 (by decide) ?_
  refine kx_imulN hx hb kk 8 dX1_corner_7 ?_
  refine lv_iload_n hx hb dX1_corner_8 rfl (lv_at hl 2 rfl) ?_
  refine kx_iaddN hx hb (kk * 8) i dX1_corner_9 ?_
  refine kx_ialdN hx hb hK.1 hP 2 rfl rfl ((kk * 8) + i) (by omega) (by decide) dX1_corner_10 ?_
  exact kx_iret hx hb hr (v := (cor ((kk * 8) + i))) (by simp []) dX1_corner_11 hlocks
abbrev rm_X1_cornerAfter : Room := { frames := 1, cells := 0, slots := 0, locals := 22 }
set_option maxHeartbeats 4000000 in
set_option maxRecDepth 100000 in
theorem c_X1_cornerAfter (l : Launch) (G : va_G) (cI cZ : ClassId) (qP : Nat) (qD : Nat) (qP1 : Nat) (qP2 : Nat) (qP3 : Nat) (sn : Nat → Nat) (cor : Nat → Int32) (jn : Nat → Nat) (pcs : Nat) (sms : Nat) (kk : Nat) (i : Nat) (hk : kk < 7) (hn8 : sn kk ≤ 8) (hi : i < 8) : Met l yX1_cornerAfter wsX1_cornerAfter rm_X1_cornerAfter (kx_Pr G cI cZ [(qP, .inr (1, [.ref qD, .ref qP1, .ref qP2, .ref qP3, .int (nI pcs), .int (nI sms)])), (qP1, .inl (cI, 7, .inl (fun k => nI (sn k)))), (qP2, .inl (cI, 56, .inl cor)), (qP3, .inl (cI, 40, .inl (fun k => nI (jn k))))] [.ref qP, .int (nI kk), .int (nI i)]) (QcRead (cor (kk * 8 + kNx (sn kk) i))) 0 0 (fun _ => False) := by
  refine Met.ofW (cc := cX1_cornerAfter) (maxL := 3) (ret := (some .int)) (by decide) rfl ?_
  intro p e s m args below meth c s₁ B hml hv
  obtain ⟨rfl, hP, hK⟩ := hv
  have hx := B.exec
  have hb := B.bytes
  have hr := B.returns
  have hts := atoms_spec (ws := wsX1_cornerAfter) B.pre
  have hown : s.vm.findClass RX1 = some m.cls := findClass_of_methodNamed B.named
  have hlocks := B.notSynchronized
  have hl := lv_entry ([.ref qP, .int (nI kk), .int (nI i)]) (n := 3) (Nat.le_of_ble_eq_true rfl)
  rw [lg_entry_eq]
  generalize (lg_sl ([.ref qP, .int (nI kk), .int (nI i)]) ++ List.replicate (3 - (lg_sl ([.ref qP, .int (nI kk), .int (nI i)])).length) Slot.unset).toArray = ls at hl ⊢
  have hl : lv_has ls 3 [(0, .ref qP), (1, .int (nI kk)), (2, .int (nI i))] := hl
  refine lv_aload_n hx hb dX1_cornerAfter_0 rfl (lv_at hl 0 rfl) ?_
  refine lv_iload_n hx hb dX1_cornerAfter_1 rfl (lv_at hl 1 rfl) ?_
  refine lv_iload_n hx hb dX1_cornerAfter_2 rfl (lv_at hl 2 rfl) ?_
  refine lv_iconst (v := 1) hx hb dX1_cornerAfter_3 (by decide) ?_
  refine kx_iaddN hx hb i 1 dX1_cornerAfter_4 ?_
  refine lv_aload_n hx hb dX1_cornerAfter_5 rfl (lv_at hl 0 rfl) ?_
  refine va_get (D := G) (ci := 1) (v := .ref qP1) (C := RX1) (T := TX1) (N := 6) hx hb hts (fun _ h => List.mem_cons_of_mem _ (List.mem_append_right _ h)) hown hK.1 hP 0 rfl rfl 1 (by decide) (hts (.fieldLink RX1 9 "TailorHouse$Pattern" "sizes" "[I") (List.mem_of_getElem? (i := 1) rfl)) (fun _ h9 => h9) rfl dX1_cornerAfter_6 ?_
  refine lv_iload_n hx hb dX1_cornerAfter_9 rfl (lv_at hl 1 rfl) ?_
  refine kx_ialdN hx hb hK.1 hP 1 rfl rfl kk (by omega) (by decide) dX1_cornerAfter_10 ?_
  refine kx_geN hx hb (i + 1) (sn kk) (by omega) (by omega) (tgt := 20) dX1_cornerAfter_11 (by decide) (fun c_1 => ?_) (fun c_1 => ?_)
  · skip
    refine lv_iconst (v := 0) hx hb dX1_cornerAfter_20 (by decide) ?_
    refine kx_ri (va_runV (As := [.int (nI kk), .int 0]) (rest := []) ⟨hx, hb, hml, hown, hts⟩ (c_X1_corner l G cI cZ qP qD qP1 qP2 qP3 sn cor jn pcs sms kk 0 (by first | assumption | omega) (by first | assumption | omega)) (cwV 2 hts gX1_cornerAfter_X1_corner rfl rfl rfl (by decide +kernel) ⟨(Nat.le_of_ble_eq_true rfl), (Nat.le_of_ble_eq_true rfl)⟩) (kx_preR hK (kx_sub 0 4 hP rfl) 0 rfl rfl) rfl rfl hl.1 rfl (lv_room (Nat.le_of_ble_eq_true rfl)) dX1_cornerAfter_21 ⟨Nat.zero_le _, Nat.zero_le _⟩) ?_
    exact kx_iret hx hb hr (v := (cor (kk * 8 + 0))) (by simp [kNx, c_1, Nat.not_lt.mpr c_1]) dX1_cornerAfter_24 hlocks
  · skip
    refine lv_iload_n hx hb dX1_cornerAfter_14 rfl (lv_at hl 2 rfl) ?_
    refine lv_iconst (v := 1) hx hb dX1_cornerAfter_15 (by decide) ?_
    refine kx_iaddN hx hb i 1 dX1_cornerAfter_16 ?_
    refine lv_goto (tgt := 21) hx hb dX1_cornerAfter_17 (by decide) ?_
    refine kx_ri (va_runV (As := [.int (nI kk), .int (nI (i + 1))]) (rest := []) ⟨hx, hb, hml, hown, hts⟩ (c_X1_corner l G cI cZ qP qD qP1 qP2 qP3 sn cor jn pcs sms kk (i + 1) (by first | assumption | omega) (by first | assumption | omega)) (cwV 2 hts gX1_cornerAfter_X1_corner rfl rfl rfl (by decide +kernel) ⟨(Nat.le_of_ble_eq_true rfl), (Nat.le_of_ble_eq_true rfl)⟩) (kx_preR hK (kx_sub 0 4 hP rfl) 0 rfl rfl) rfl rfl hl.1 rfl (lv_room (Nat.le_of_ble_eq_true rfl)) dX1_cornerAfter_21 ⟨Nat.zero_le _, Nat.zero_le _⟩) ?_
    exact kx_iret hx hb hr (v := (cor (kk * 8 + (i + 1)))) (by simp [kNx, c_1, Nat.not_le.mpr c_1]) dX1_cornerAfter_24 hlocks
theorem h_X1_addPiece (cI cZ : ClassId) (qP : Nat) (qD : Nat) (qP1 : Nat) (qP2 : Nat) (qP3 : Nat) (szs : Nat → Int32) (cor : Nat → Int32) (jn : Nat → Nat) (pcs : Nat) (sms : Nat) : ∀ u, (((fun u : (Nat → Int32) × (Nat → Int32) × Nat => [(qP, .inr (1, [.ref qD, .ref qP1, .ref qP2, .ref qP3, .int (nI u.2.2), .int (nI sms)])), (qP1, .inl (cI, 7, .inl u.1)), (qP2, .inl (cI, 56, .inl u.2.1)), (qP3, .inl (cI, 40, .inl (fun k => nI (jn k))))]) : ((Nat → Int32) × (Nat → Int32) × Nat) → va_W) u).map Prod.fst = ([(qP, .inr (1, [.ref qD, .ref qP1, .ref qP2, .ref qP3, .int (nI pcs), .int (nI sms)])), (qP1, .inl (cI, 7, .inl szs)), (qP2, .inl (cI, 56, .inl cor)), (qP3, .inl (cI, 40, .inl (fun k => nI (jn k))))] : va_W).map Prod.fst := fun _ => rfl
abbrev rm_X1_addPiece : Room := { frames := 0, cells := 0, slots := 0, locals := 0 }
set_option maxHeartbeats 4000000 in
set_option maxRecDepth 100000 in
theorem c_X1_addPiece (l : Launch) (G : va_G) (cI cZ : ClassId) (qP : Nat) (qD : Nat) (qP1 : Nat) (qP2 : Nat) (qP3 : Nat) (szs : Nat → Int32) (cor : Nat → Int32) (jn : Nat → Nat) (pcs : Nat) (sms : Nat) (sz : Nat) (a : Int32) (b : Int32) (cx : Int32) (d : Int32) (hpc : pcs ≤ 7) : Met l yX1_addPiece wsX1_addPiece rm_X1_addPiece (kx_Pw G cI cZ [(qP, .inr (1, [.ref qD, .ref qP1, .ref qP2, .ref qP3, .int (nI pcs), .int (nI sms)])), (qP1, .inl (cI, 7, .inl szs)), (qP2, .inl (cI, 56, .inl cor)), (qP3, .inl (cI, 40, .inl (fun k => nI (jn k))))] sz [.ref qP, .int a, .int b, .int cx, .int d]) (va_Qi (fun (r : Int32) (u : (Nat → Int32) × (Nat → Int32) × Nat) => if pcs < 7 then r = nI pcs ∧ u.1 = upd szs pcs (if d = -1 then 3 else 4) ∧ u.2.1 = upd (upd (upd (upd cor (pcs * 8) a) (pcs * 8 + 1) b) (pcs * 8 + 2) cx) (pcs * 8 + 3) d ∧ u.2.2 = pcs + 1 else r = -4 ∧ u.1 = szs ∧ u.2.1 = cor ∧ u.2.2 = pcs) (fun u t => va_P G vwCl ((fun u : (Nat → Int32) × (Nat → Int32) × Nat => [(qP, .inr (1, [.ref qD, .ref qP1, .ref qP2, .ref qP3, .int (nI u.2.2), .int (nI sms)])), (qP1, .inl (cI, 7, .inl u.1)), (qP2, .inl (cI, 56, .inl u.2.1)), (qP3, .inl (cI, 40, .inl (fun k => nI (jn k))))]) u) t.heap) (va_A [(qP, .inr (1, [.ref qD, .ref qP1, .ref qP2, .ref qP3, .int (nI pcs), .int (nI sms)])), (qP1, .inl (cI, 7, .inl szs)), (qP2, .inl (cI, 56, .inl cor)), (qP3, .inl (cI, 40, .inl (fun k => nI (jn k))))] sz)) 0 0 (va_A [(qP, .inr (1, [.ref qD, .ref qP1, .ref qP2, .ref qP3, .int (nI pcs), .int (nI sms)])), (qP1, .inl (cI, 7, .inl szs)), (qP2, .inl (cI, 56, .inl cor)), (qP3, .inl (cI, 40, .inl (fun k => nI (jn k))))] sz) := by
  refine Met.ofW (cc := cX1_addPiece) (maxL := 6) (ret := (some .int)) (by decide) rfl ?_
  intro p e s m args below meth c s₁ B hml hv
  obtain ⟨rfl, hsz, hP, hD0, hK⟩ := hv
  have hx := B.exec
  have hb := B.bytes
  have hr := B.returns
  have hts := atoms_spec (ws := wsX1_addPiece) B.pre
  have hown : s.vm.findClass RX1 = some m.cls := findClass_of_methodNamed B.named
  have hlocks := B.notSynchronized
  subst hsz
  have hD := hD0.self (sz := s.heap.size)
  generalize hAe : va_A [(qP, .inr (1, [.ref qD, .ref qP1, .ref qP2, .ref qP3, .int (nI pcs), .int (nI sms)])), (qP1, .inl (cI, 7, .inl szs)), (qP2, .inl (cI, 56, .inl cor)), (qP3, .inl (cI, 40, .inl (fun k => nI (jn k))))] s.heap.size = A at hD ⊢
  have hA : ∀ q : Nat, s.heap.size ≤ q → A q := fun q h => by rw [← hAe]; exact Or.inr h
  have hS : va_S A s.heap s.heap [] := va_S.rf
  have hl := lv_entry ([.ref qP, .int a, .int b, .int cx, .int d]) (n := 6) (Nat.le_of_ble_eq_true rfl)
  rw [lg_entry_eq]
  generalize (lg_sl ([.ref qP, .int a, .int b, .int cx, .int d]) ++ List.replicate (6 - (lg_sl ([.ref qP, .int a, .int b, .int cx, .int d])).length) Slot.unset).toArray = ls at hl ⊢
  have hl : lv_has ls 6 [(0, .ref qP), (1, .int a), (2, .int b), (3, .int cx), (4, .int d)] := hl
  refine lv_aload_n hx hb dX1_addPiece_0 rfl (lv_at hl 0 rfl) ?_
  refine va_get (D := G) (ci := 1) (v := .int (nI pcs)) (C := RX1) (T := TX1) (N := 6) hx hb hts (fun _ h => List.mem_cons_of_mem _ (List.mem_append_right _ h)) hown hK.1 hP 0 rfl rfl 4 (by decide) (hts (.fieldLink RX1 21 "TailorHouse$Pattern" "pieces" "I") (List.mem_of_getElem? (i := 1) rfl)) (fun _ h9 => h9) rfl dX1_addPiece_1 ?_
  refine lv_bipush (v := 7) hx hb dX1_addPiece_4 (by decide) ?_
  refine kx_ltN hx hb pcs 7 (by omega) (by omega) (tgt := 12) dX1_addPiece_6 (by decide) (fun c_1 => ?_) (fun c_1 => ?_)
  · skip
    refine lv_aload_n hx hb dX1_addPiece_12 rfl (lv_at hl 0 rfl) ?_
    refine va_get (D := G) (ci := 1) (v := .int (nI pcs)) (C := RX1) (T := TX1) (N := 6) hx hb hts (fun _ h => List.mem_cons_of_mem _ (List.mem_append_right _ h)) hown hK.1 hP 0 rfl rfl 4 (by decide) (hts (.fieldLink RX1 21 "TailorHouse$Pattern" "pieces" "I") (List.mem_of_getElem? (i := 1) rfl)) (fun _ h9 => h9) rfl dX1_addPiece_13 ?_
    refine lv_bipush (v := 8) hx hb dX1_addPiece_16 (by decide) ?_
    refine kx_imulN hx hb pcs 8 dX1_addPiece_18 ?_
    refine lv_istore (lv' := [(5, .int (nI (pcs * 8))), (0, .ref qP), (1, .int a), (2, .int b), (3, .int cx), (4, .int d)]) hx hb dX1_addPiece_19 hl (by decide) rfl (fun ls hl => ?_)
    refine lv_aload_n hx hb dX1_addPiece_21 rfl (lv_at hl 1 rfl) ?_
    refine va_get (D := G) (ci := 1) (v := .ref qP2) (C := RX1) (T := TX1) (N := 6) hx hb hts (fun _ h => List.mem_cons_of_mem _ (List.mem_append_right _ h)) hown hK.1 hP 0 rfl rfl 2 (by decide) (hts (.fieldLink RX1 15 "TailorHouse$Pattern" "corners" "[I") (List.mem_of_getElem? (i := 2) rfl)) (fun _ h9 => h9) rfl dX1_addPiece_22 ?_
    refine lv_iload hx hb dX1_addPiece_25 (lv_at hl 0 rfl) ?_
    refine lv_iload_n hx hb dX1_addPiece_27 rfl (lv_at hl 2 rfl) ?_
    refine kx_iastN hx hb hK.1 hP hD hS 2 rfl rfl (pcs * 8) (by omega) (by decide) dX1_addPiece_28 (fun H locs hP hD hS => ?_)
    have hP : va_P G vwCl [(qP, .inr (1, [.ref qD, .ref qP1, .ref qP2, .ref qP3, .int (nI pcs), .int (nI sms)])), (qP1, .inl (cI, 7, .inl szs)), (qP2, .inl (cI, 56, .inl (upd cor (pcs * 8) a))), (qP3, .inl (cI, 40, .inl (fun k => nI (jn k))))] H := hP
    have hD : va_D A [(qP, .inr (1, [.ref qD, .ref qP1, .ref qP2, .ref qP3, .int (nI pcs), .int (nI sms)])), (qP1, .inl (cI, 7, .inl szs)), (qP2, .inl (cI, 56, .inl (upd cor (pcs * 8) a))), (qP3, .inl (cI, 40, .inl (fun k => nI (jn k))))] := hD
    refine lv_aload_n hx hb dX1_addPiece_29 rfl (lv_at hl 1 rfl) ?_
    refine va_get (D := G) (ci := 1) (v := .ref qP2) (C := RX1) (T := TX1) (N := 6) hx hb hts (fun _ h => List.mem_cons_of_mem _ (List.mem_append_right _ h)) hown hK.1 hP 0 rfl rfl 2 (by decide) (hts (.fieldLink RX1 15 "TailorHouse$Pattern" "corners" "[I") (List.mem_of_getElem? (i := 2) rfl)) (fun _ h9 => h9) rfl dX1_addPiece_30 ?_
    refine lv_iload hx hb dX1_addPiece_33 (lv_at hl 0 rfl) ?_
    refine lv_iconst (v := 1) hx hb dX1_addPiece_35 (by decide) ?_
    refine kx_iaddN hx hb (pcs * 8) 1 dX1_addPiece_36 ?_
    refine lv_iload_n hx hb dX1_addPiece_37 rfl (lv_at hl 3 rfl) ?_
    refine kx_iastN hx hb hK.1 hP hD hS 2 rfl rfl ((pcs * 8) + 1) (by omega) (by decide) dX1_addPiece_38 (fun H locs hP hD hS => ?_)
    have hP : va_P G vwCl [(qP, .inr (1, [.ref qD, .ref qP1, .ref qP2, .ref qP3, .int (nI pcs), .int (nI sms)])), (qP1, .inl (cI, 7, .inl szs)), (qP2, .inl (cI, 56, .inl (upd (upd cor (pcs * 8) a) ((pcs * 8) + 1) b))), (qP3, .inl (cI, 40, .inl (fun k => nI (jn k))))] H := hP
    have hD : va_D A [(qP, .inr (1, [.ref qD, .ref qP1, .ref qP2, .ref qP3, .int (nI pcs), .int (nI sms)])), (qP1, .inl (cI, 7, .inl szs)), (qP2, .inl (cI, 56, .inl (upd (upd cor (pcs * 8) a) ((pcs * 8) + 1) b))), (qP3, .inl (cI, 40, .inl (fun k => nI (jn k))))] := hD
    refine lv_aload_n hx hb dX1_addPiece_39 rfl (lv_at hl 1 rfl) ?_
    refine va_get (D := G) (ci := 1) (v := .ref qP2) (C := RX1) (T := TX1) (N := 6) hx hb hts (fun _ h => List.mem_cons_of_mem _ (List.mem_append_right _ h)) hown hK.1 hP 0 rfl rfl 2 (by decide) (hts (.fieldLink RX1 15 "TailorHouse$Pattern" "corners" "[I") (List.mem_of_getElem? (i := 2) rfl)) (fun _ h9 => h9) rfl dX1_addPiece_40 ?_
    refine lv_iload hx hb dX1_addPiece_43 (lv_at hl 0 rfl) ?_
    refine lv_iconst (v := 2) hx hb dX1_addPiece_45 (by decide) ?_
    refine kx_iaddN hx hb (pcs * 8) 2 dX1_addPiece_46 ?_
    refine lv_iload_n hx hb dX1_addPiece_47 rfl (lv_at hl 4 rfl) ?_
    refine kx_iastN hx hb hK.1 hP hD hS 2 rfl rfl ((pcs * 8) + 2) (by omega) (by decide) dX1_addPiece_48 (fun H locs hP hD hS => ?_)
    have hP : va_P G vwCl [(qP, .inr (1, [.ref qD, .ref qP1, .ref qP2, .ref qP3, .int (nI pcs), .int (nI sms)])), (qP1, .inl (cI, 7, .inl szs)), (qP2, .inl (cI, 56, .inl (upd (upd (upd cor (pcs * 8) a) ((pcs * 8) + 1) b) ((pcs * 8) + 2) cx))), (qP3, .inl (cI, 40, .inl (fun k => nI (jn k))))] H := hP
    have hD : va_D A [(qP, .inr (1, [.ref qD, .ref qP1, .ref qP2, .ref qP3, .int (nI pcs), .int (nI sms)])), (qP1, .inl (cI, 7, .inl szs)), (qP2, .inl (cI, 56, .inl (upd (upd (upd cor (pcs * 8) a) ((pcs * 8) + 1) b) ((pcs * 8) + 2) cx))), (qP3, .inl (cI, 40, .inl (fun k => nI (jn k))))] := hD
    refine lv_aload_n hx hb dX1_addPiece_49 rfl (lv_at hl 1 rfl) ?_
    refine va_get (D := G) (ci := 1) (v := .ref qP2) (C := RX1) (T := TX1) (N := 6) hx hb hts (fun _ h => List.mem_cons_of_mem _ (List.mem_append_right _ h)) hown hK.1 hP 0 rfl rfl 2 (by decide) (hts (.fieldLink RX1 15 "TailorHouse$Pattern" "corners" "[I") (List.mem_of_getElem? (i := 2) rfl)) (fun _ h9 => h9) rfl dX1_addPiece_50 ?_
    refine lv_iload hx hb dX1_addPiece_53 (lv_at hl 0 rfl) ?_
    refine lv_iconst (v := 3) hx hb dX1_addPiece_55 (by decide) ?_
    refine kx_iaddN hx hb (pcs * 8) 3 dX1_addPiece_56 ?_
    refine lv_iload hx hb dX1_addPiece_57 (lv_at hl 5 rfl) ?_
    refine kx_iastN hx hb hK.1 hP hD hS 2 rfl rfl ((pcs * 8) + 3) (by omega) (by decide) dX1_addPiece_59 (fun H locs hP hD hS => ?_)
    have hP : va_P G vwCl [(qP, .inr (1, [.ref qD, .ref qP1, .ref qP2, .ref qP3, .int (nI pcs), .int (nI sms)])), (qP1, .inl (cI, 7, .inl szs)), (qP2, .inl (cI, 56, .inl (upd (upd (upd (upd cor (pcs * 8) a) ((pcs * 8) + 1) b) ((pcs * 8) + 2) cx) ((pcs * 8) + 3) d))), (qP3, .inl (cI, 40, .inl (fun k => nI (jn k))))] H := hP
    have hD : va_D A [(qP, .inr (1, [.ref qD, .ref qP1, .ref qP2, .ref qP3, .int (nI pcs), .int (nI sms)])), (qP1, .inl (cI, 7, .inl szs)), (qP2, .inl (cI, 56, .inl (upd (upd (upd (upd cor (pcs * 8) a) ((pcs * 8) + 1) b) ((pcs * 8) + 2) cx) ((pcs * 8) + 3) d))), (qP3, .inl (cI, 40, .inl (fun k => nI (jn k))))] := hD
    refine lv_aload_n hx hb dX1_addPiece_60 rfl (lv_at hl 1 rfl) ?_
    refine va_get (D := G) (ci := 1) (v := .ref qP1) (C := RX1) (T := TX1) (N := 6) hx hb hts (fun _ h => List.mem_cons_of_mem _ (List.mem_append_right _ h)) hown hK.1 hP 0 rfl rfl 1 (by decide) (hts (.fieldLink RX1 9 "TailorHouse$Pattern" "sizes" "[I") (List.mem_of_getElem? (i := 3) rfl)) (fun _ h9 => h9) rfl dX1_addPiece_61 ?_
    refine lv_aload_n hx hb dX1_addPiece_64 rfl (lv_at hl 1 rfl) ?_
    refine va_get (D := G) (ci := 1) (v := .int (nI pcs)) (C := RX1) (T := TX1) (N := 6) hx hb hts (fun _ h => List.mem_cons_of_mem _ (List.mem_append_right _ h)) hown hK.1 hP 0 rfl rfl 4 (by decide) (hts (.fieldLink RX1 21 "TailorHouse$Pattern" "pieces" "I") (List.mem_of_getElem? (i := 1) rfl)) (fun _ h9 => h9) rfl dX1_addPiece_65 ?_
    refine lv_iload hx hb dX1_addPiece_68 (lv_at hl 5 rfl) ?_
    refine lv_iconst (v := (-1)) hx hb dX1_addPiece_70 (by decide) ?_
    refine lv_icmp_ne (tgt := 78) hx hb dX1_addPiece_71 (by decide) (fun c_2 => ?_) (fun c_2 => ?_)
    · skip
      refine lv_iconst (v := 4) hx hb dX1_addPiece_78 (by decide) ?_
      refine kx_iastN hx hb hK.1 hP hD hS 1 rfl rfl pcs (by omega) (by decide) dX1_addPiece_79 (fun H locs hP hD hS => ?_)
      have hP : va_P G vwCl [(qP, .inr (1, [.ref qD, .ref qP1, .ref qP2, .ref qP3, .int (nI pcs), .int (nI sms)])), (qP1, .inl (cI, 7, .inl (upd szs pcs 4))), (qP2, .inl (cI, 56, .inl (upd (upd (upd (upd cor (pcs * 8) a) ((pcs * 8) + 1) b) ((pcs * 8) + 2) cx) ((pcs * 8) + 3) d))), (qP3, .inl (cI, 40, .inl (fun k => nI (jn k))))] H := hP
      have hD : va_D A [(qP, .inr (1, [.ref qD, .ref qP1, .ref qP2, .ref qP3, .int (nI pcs), .int (nI sms)])), (qP1, .inl (cI, 7, .inl (upd szs pcs 4))), (qP2, .inl (cI, 56, .inl (upd (upd (upd (upd cor (pcs * 8) a) ((pcs * 8) + 1) b) ((pcs * 8) + 2) cx) ((pcs * 8) + 3) d))), (qP3, .inl (cI, 40, .inl (fun k => nI (jn k))))] := hD
      refine lv_aload_n hx hb dX1_addPiece_80 rfl (lv_at hl 1 rfl) ?_
      refine lv_dup hx hb dX1_addPiece_81 rfl ?_
      refine va_get (D := G) (ci := 1) (v := .int (nI pcs)) (C := RX1) (T := TX1) (N := 6) hx hb hts (fun _ h => List.mem_cons_of_mem _ (List.mem_append_right _ h)) hown hK.1 hP 0 rfl rfl 4 (by decide) (hts (.fieldLink RX1 21 "TailorHouse$Pattern" "pieces" "I") (List.mem_of_getElem? (i := 1) rfl)) (fun _ h9 => h9) rfl dX1_addPiece_82 ?_
      refine lv_iconst (v := 1) hx hb dX1_addPiece_85 (by decide) ?_
      refine kx_iaddN hx hb pcs 1 dX1_addPiece_86 ?_
      refine va_put (D := G) (ci := 1) (v := .int (nI (pcs + 1))) (ty := .int) (C := RX1) (T := TX1) (N := 6) hx hb hts (fun _ h => List.mem_cons_of_mem _ (List.mem_append_right _ h)) tyX1 tyX1_ok nmX1 hown hK.1 hP hD hS 0 rfl rfl 4 (by decide) (hts (.fieldLink RX1 21 "TailorHouse$Pattern" "pieces" "I") (List.mem_of_getElem? (i := 1) rfl)) (fun _ h9 => h9) rfl (by decide +kernel) rfl rfl (Nat.le_of_ble_eq_true rfl) dX1_addPiece_87 (fun H locs hP hD hS => ?_)
      have hP : va_P G vwCl [(qP, .inr (1, [.ref qD, .ref qP1, .ref qP2, .ref qP3, .int (nI (pcs + 1)), .int (nI sms)])), (qP1, .inl (cI, 7, .inl (upd szs pcs 4))), (qP2, .inl (cI, 56, .inl (upd (upd (upd (upd cor (pcs * 8) a) ((pcs * 8) + 1) b) ((pcs * 8) + 2) cx) ((pcs * 8) + 3) d))), (qP3, .inl (cI, 40, .inl (fun k => nI (jn k))))] H := hP
      have hD : va_D A [(qP, .inr (1, [.ref qD, .ref qP1, .ref qP2, .ref qP3, .int (nI (pcs + 1)), .int (nI sms)])), (qP1, .inl (cI, 7, .inl (upd szs pcs 4))), (qP2, .inl (cI, 56, .inl (upd (upd (upd (upd cor (pcs * 8) a) ((pcs * 8) + 1) b) ((pcs * 8) + 2) cx) ((pcs * 8) + 3) d))), (qP3, .inl (cI, 40, .inl (fun k => nI (jn k))))] := hD
      refine lv_aload_n hx hb dX1_addPiece_90 rfl (lv_at hl 1 rfl) ?_
      refine va_get (D := G) (ci := 1) (v := .int (nI (pcs + 1))) (C := RX1) (T := TX1) (N := 6) hx hb hts (fun _ h => List.mem_cons_of_mem _ (List.mem_append_right _ h)) hown hK.1 hP 0 rfl rfl 4 (by decide) (hts (.fieldLink RX1 21 "TailorHouse$Pattern" "pieces" "I") (List.mem_of_getElem? (i := 1) rfl)) (fun _ h9 => h9) rfl dX1_addPiece_91 ?_
      refine lv_iconst (v := 1) hx hb dX1_addPiece_94 (by decide) ?_
      refine kx_isubN hx hb (pcs + 1) 1 (by omega) dX1_addPiece_95 ?_
      exact W.iret (v := (nI ((pcs + 1) - 1))) hx hb hr (fun t ht hW => ⟨⟨(nI ((pcs + 1) - 1)), (upd szs pcs 4, upd (upd (upd (upd cor (pcs * 8) a) ((pcs * 8) + 1) b) ((pcs * 8) + 2) cx) ((pcs * 8) + 3) d, pcs + 1), rfl, by simp [c_1, Nat.not_le.mpr c_1, c_2], by (show va_P G vwCl _ t.heap; rw [ht]; exact hP)⟩, hS.F ht⟩) hS.2.2 dX1_addPiece_96 hlocks
    · skip
      refine lv_iconst (v := 3) hx hb dX1_addPiece_74 (by decide) ?_
      refine lv_goto (tgt := 79) hx hb dX1_addPiece_75 (by decide) ?_
      refine kx_iastN hx hb hK.1 hP hD hS 1 rfl rfl pcs (by omega) (by decide) dX1_addPiece_79 (fun H locs hP hD hS => ?_)
      have hP : va_P G vwCl [(qP, .inr (1, [.ref qD, .ref qP1, .ref qP2, .ref qP3, .int (nI pcs), .int (nI sms)])), (qP1, .inl (cI, 7, .inl (upd szs pcs 3))), (qP2, .inl (cI, 56, .inl (upd (upd (upd (upd cor (pcs * 8) a) ((pcs * 8) + 1) b) ((pcs * 8) + 2) cx) ((pcs * 8) + 3) d))), (qP3, .inl (cI, 40, .inl (fun k => nI (jn k))))] H := hP
      have hD : va_D A [(qP, .inr (1, [.ref qD, .ref qP1, .ref qP2, .ref qP3, .int (nI pcs), .int (nI sms)])), (qP1, .inl (cI, 7, .inl (upd szs pcs 3))), (qP2, .inl (cI, 56, .inl (upd (upd (upd (upd cor (pcs * 8) a) ((pcs * 8) + 1) b) ((pcs * 8) + 2) cx) ((pcs * 8) + 3) d))), (qP3, .inl (cI, 40, .inl (fun k => nI (jn k))))] := hD
      refine lv_aload_n hx hb dX1_addPiece_80 rfl (lv_at hl 1 rfl) ?_
      refine lv_dup hx hb dX1_addPiece_81 rfl ?_
      refine va_get (D := G) (ci := 1) (v := .int (nI pcs)) (C := RX1) (T := TX1) (N := 6) hx hb hts (fun _ h => List.mem_cons_of_mem _ (List.mem_append_right _ h)) hown hK.1 hP 0 rfl rfl 4 (by decide) (hts (.fieldLink RX1 21 "TailorHouse$Pattern" "pieces" "I") (List.mem_of_getElem? (i := 1) rfl)) (fun _ h9 => h9) rfl dX1_addPiece_82 ?_
      refine lv_iconst (v := 1) hx hb dX1_addPiece_85 (by decide) ?_
      refine kx_iaddN hx hb pcs 1 dX1_addPiece_86 ?_
      refine va_put (D := G) (ci := 1) (v := .int (nI (pcs + 1))) (ty := .int) (C := RX1) (T := TX1) (N := 6) hx hb hts (fun _ h => List.mem_cons_of_mem _ (List.mem_append_right _ h)) tyX1 tyX1_ok nmX1 hown hK.1 hP hD hS 0 rfl rfl 4 (by decide) (hts (.fieldLink RX1 21 "TailorHouse$Pattern" "pieces" "I") (List.mem_of_getElem? (i := 1) rfl)) (fun _ h9 => h9) rfl (by decide +kernel) rfl rfl (Nat.le_of_ble_eq_true rfl) dX1_addPiece_87 (fun H locs hP hD hS => ?_)
      have hP : va_P G vwCl [(qP, .inr (1, [.ref qD, .ref qP1, .ref qP2, .ref qP3, .int (nI (pcs + 1)), .int (nI sms)])), (qP1, .inl (cI, 7, .inl (upd szs pcs 3))), (qP2, .inl (cI, 56, .inl (upd (upd (upd (upd cor (pcs * 8) a) ((pcs * 8) + 1) b) ((pcs * 8) + 2) cx) ((pcs * 8) + 3) d))), (qP3, .inl (cI, 40, .inl (fun k => nI (jn k))))] H := hP
      have hD : va_D A [(qP, .inr (1, [.ref qD, .ref qP1, .ref qP2, .ref qP3, .int (nI (pcs + 1)), .int (nI sms)])), (qP1, .inl (cI, 7, .inl (upd szs pcs 3))), (qP2, .inl (cI, 56, .inl (upd (upd (upd (upd cor (pcs * 8) a) ((pcs * 8) + 1) b) ((pcs * 8) + 2) cx) ((pcs * 8) + 3) d))), (qP3, .inl (cI, 40, .inl (fun k => nI (jn k))))] := hD
      refine lv_aload_n hx hb dX1_addPiece_90 rfl (lv_at hl 1 rfl) ?_
      refine va_get (D := G) (ci := 1) (v := .int (nI (pcs + 1))) (C := RX1) (T := TX1) (N := 6) hx hb hts (fun _ h => List.mem_cons_of_mem _ (List.mem_append_right _ h)) hown hK.1 hP 0 rfl rfl 4 (by decide) (hts (.fieldLink RX1 21 "TailorHouse$Pattern" "pieces" "I") (List.mem_of_getElem? (i := 1) rfl)) (fun _ h9 => h9) rfl dX1_addPiece_91 ?_
      refine lv_iconst (v := 1) hx hb dX1_addPiece_94 (by decide) ?_
      refine kx_isubN hx hb (pcs + 1) 1 (by omega) dX1_addPiece_95 ?_
      exact W.iret (v := (nI ((pcs + 1) - 1))) hx hb hr (fun t ht hW => ⟨⟨(nI ((pcs + 1) - 1)), (upd szs pcs 3, upd (upd (upd (upd cor (pcs * 8) a) ((pcs * 8) + 1) b) ((pcs * 8) + 2) cx) ((pcs * 8) + 3) d, pcs + 1), rfl, by simp [c_1, Nat.not_le.mpr c_1, c_2], by (show va_P G vwCl _ t.heap; rw [ht]; exact hP)⟩, hS.F ht⟩) hS.2.2 dX1_addPiece_96 hlocks
  · skip
    refine lv_bipush (v := (-4)) hx hb dX1_addPiece_9 (by decide) ?_
    exact W.iret (v := (-4)) hx hb hr (fun t ht hW => ⟨⟨(-4), (szs, cor, pcs), rfl, by simp [c_1, Nat.not_lt.mpr c_1], by (show va_P G vwCl _ t.heap; rw [ht]; exact hP)⟩, hS.F ht⟩) hS.2.2 dX1_addPiece_11 hlocks
theorem h_X1_addCorner (cI cZ : ClassId) (qP : Nat) (qD : Nat) (qP1 : Nat) (qP2 : Nat) (qP3 : Nat) (sn : Nat → Nat) (cor : Nat → Int32) (jn : Nat → Nat) (pcs : Nat) (sms : Nat) : ∀ u, (((fun u : (Nat → Int32) × (Nat → Int32) => [(qP, .inr (1, [.ref qD, .ref qP1, .ref qP2, .ref qP3, .int (nI pcs), .int (nI sms)])), (qP1, .inl (cI, 7, .inl u.1)), (qP2, .inl (cI, 56, .inl u.2)), (qP3, .inl (cI, 40, .inl (fun k => nI (jn k))))]) : ((Nat → Int32) × (Nat → Int32)) → va_W) u).map Prod.fst = ([(qP, .inr (1, [.ref qD, .ref qP1, .ref qP2, .ref qP3, .int (nI pcs), .int (nI sms)])), (qP1, .inl (cI, 7, .inl (fun k => nI (sn k)))), (qP2, .inl (cI, 56, .inl cor)), (qP3, .inl (cI, 40, .inl (fun k => nI (jn k))))] : va_W).map Prod.fst := fun _ => rfl
abbrev rm_X1_addCorner : Room := { frames := 0, cells := 0, slots := 0, locals := 0 }
set_option maxHeartbeats 4000000 in
set_option maxRecDepth 100000 in
theorem c_X1_addCorner (l : Launch) (G : va_G) (cI cZ : ClassId) (qP : Nat) (qD : Nat) (qP1 : Nat) (qP2 : Nat) (qP3 : Nat) (sn : Nat → Nat) (cor : Nat → Int32) (jn : Nat → Nat) (pcs : Nat) (sms : Nat) (sz : Nat) (kk : Nat) (v : Int32) (hk : kk < 7) (hn8 : sn kk ≤ 8) : Met l yX1_addCorner wsX1_addCorner rm_X1_addCorner (kx_Pw G cI cZ [(qP, .inr (1, [.ref qD, .ref qP1, .ref qP2, .ref qP3, .int (nI pcs), .int (nI sms)])), (qP1, .inl (cI, 7, .inl (fun k => nI (sn k)))), (qP2, .inl (cI, 56, .inl cor)), (qP3, .inl (cI, 40, .inl (fun k => nI (jn k))))] sz [.ref qP, .int (nI kk), .int v]) (va_Qi (fun (r : Int32) (u : (Nat → Int32) × (Nat → Int32)) => if sn kk < 8 then r = nI (sn kk + 1) ∧ u.1 = upd (fun k => nI (sn k)) kk (nI (sn kk + 1)) ∧ u.2 = upd cor (kk * 8 + sn kk) v else r = -4 ∧ u.1 = (fun k => nI (sn k)) ∧ u.2 = cor) (fun u t => va_P G vwCl ((fun u : (Nat → Int32) × (Nat → Int32) => [(qP, .inr (1, [.ref qD, .ref qP1, .ref qP2, .ref qP3, .int (nI pcs), .int (nI sms)])), (qP1, .inl (cI, 7, .inl u.1)), (qP2, .inl (cI, 56, .inl u.2)), (qP3, .inl (cI, 40, .inl (fun k => nI (jn k))))]) u) t.heap) (va_A [(qP, .inr (1, [.ref qD, .ref qP1, .ref qP2, .ref qP3, .int (nI pcs), .int (nI sms)])), (qP1, .inl (cI, 7, .inl (fun k => nI (sn k)))), (qP2, .inl (cI, 56, .inl cor)), (qP3, .inl (cI, 40, .inl (fun k => nI (jn k))))] sz)) 0 0 (va_A [(qP, .inr (1, [.ref qD, .ref qP1, .ref qP2, .ref qP3, .int (nI pcs), .int (nI sms)])), (qP1, .inl (cI, 7, .inl (fun k => nI (sn k)))), (qP2, .inl (cI, 56, .inl cor)), (qP3, .inl (cI, 40, .inl (fun k => nI (jn k))))] sz) := by
  refine Met.ofW (cc := cX1_addCorner) (maxL := 3) (ret := (some .int)) (by decide) rfl ?_
  intro p e s m args below meth c s₁ B hml hv
  obtain ⟨rfl, hsz, hP, hD0, hK⟩ := hv
  have hx := B.exec
  have hb := B.bytes
  have hr := B.returns
  have hts := atoms_spec (ws := wsX1_addCorner) B.pre
  have hown : s.vm.findClass RX1 = some m.cls := findClass_of_methodNamed B.named
  have hlocks := B.notSynchronized
  subst hsz
  have hD := hD0.self (sz := s.heap.size)
  generalize hAe : va_A [(qP, .inr (1, [.ref qD, .ref qP1, .ref qP2, .ref qP3, .int (nI pcs), .int (nI sms)])), (qP1, .inl (cI, 7, .inl (fun k => nI (sn k)))), (qP2, .inl (cI, 56, .inl cor)), (qP3, .inl (cI, 40, .inl (fun k => nI (jn k))))] s.heap.size = A at hD ⊢
  have hA : ∀ q : Nat, s.heap.size ≤ q → A q := fun q h => by rw [← hAe]; exact Or.inr h
  have hS : va_S A s.heap s.heap [] := va_S.rf
  have hl := lv_entry ([.ref qP, .int (nI kk), .int v]) (n := 3) (Nat.le_of_ble_eq_true rfl)
  rw [lg_entry_eq]
  generalize (lg_sl ([.ref qP, .int (nI kk), .int v]) ++ List.replicate (3 - (lg_sl ([.ref qP, .int (nI kk), .int v])).length) Slot.unset).toArray = ls at hl ⊢
  have hl : lv_has ls 3 [(0, .ref qP), (1, .int (nI kk)), (2, .int v)] := hl
  refine lv_aload_n hx hb dX1_addCorner_0 rfl (lv_at hl 0 rfl) ?_
  refine va_get (D := G) (ci := 1) (v := .ref qP1) (C := RX1) (T := TX1) (N := 6) hx hb hts (fun _ h => List.mem_cons_of_mem _ (List.mem_append_right _ h)) hown hK.1 hP 0 rfl rfl 1 (by decide) (hts (.fieldLink RX1 9 "TailorHouse$Pattern" "sizes" "[I") (List.mem_of_getElem? (i := 1) rfl)) (fun _ h9 => h9) rfl dX1_addCorner_1 ?_
  refine lv_iload_n hx hb dX1_addCorner_4 rfl (lv_at hl 1 rfl) ?_
  refine kx_ialdN hx hb hK.1 hP 1 rfl rfl kk (by omega) (by decide) dX1_addCorner_5 ?_
  refine lv_bipush (v := 8) hx hb dX1_addCorner_6 (by decide) ?_
  refine kx_ltN hx hb (sn kk) 8 (by omega) (by omega) (tgt := 14) dX1_addCorner_8 (by decide) (fun c_1 => ?_) (fun c_1 => ?_)
  · skip
    refine lv_aload_n hx hb dX1_addCorner_14 rfl (lv_at hl 0 rfl) ?_
    refine va_get (D := G) (ci := 1) (v := .ref qP2) (C := RX1) (T := TX1) (N := 6) hx hb hts (fun _ h => List.mem_cons_of_mem _ (List.mem_append_right _ h)) hown hK.1 hP 0 rfl rfl 2 (by decide) (hts (.fieldLink RX1 15 "TailorHouse$Pattern" "corners" "[I") (List.mem_of_getElem? (i := 2) rfl)) (fun _ h9 => h9) rfl dX1_addCorner_15 ?_
    refine lv_iload_n hx hb dX1_addCorner_18 rfl (lv_at hl 1 rfl) ?_
    refine lv_bipush (v := 8) hx hb dX1_addCorner_19 (by decide) ?_
    refine kx_imulN hx hb kk 8 dX1_addCorner_21 ?_
    refine lv_aload_n hx hb dX1_addCorner_22 rfl (lv_at hl 0 rfl) ?_
    refine va_get (D := G) (ci := 1) (v := .ref qP1) (C := RX1) (T := TX1) (N := 6) hx hb hts (fun _ h => List.mem_cons_of_mem _ (List.mem_append_right _ h)) hown hK.1 hP 0 rfl rfl 1 (by decide) (hts (.fieldLink RX1 9 "TailorHouse$Pattern" "sizes" "[I") (List.mem_of_getElem? (i := 1) rfl)) (fun _ h9 => h9) rfl dX1_addCorner_23 ?_
    refine lv_iload_n hx hb dX1_addCorner_26 rfl (lv_at hl 1 rfl) ?_
    refine kx_ialdN hx hb hK.1 hP 1 rfl rfl kk (by omega) (by decide) dX1_addCorner_27 ?_
    refine kx_iaddN hx hb (kk * 8) (sn kk) dX1_addCorner_28 ?_
    refine lv_iload_n hx hb dX1_addCorner_29 rfl (lv_at hl 2 rfl) ?_
    refine kx_iastN hx hb hK.1 hP hD hS 2 rfl rfl ((kk * 8) + (sn kk)) (by omega) (by decide) dX1_addCorner_30 (fun H locs hP hD hS => ?_)
    have hP : va_P G vwCl [(qP, .inr (1, [.ref qD, .ref qP1, .ref qP2, .ref qP3, .int (nI pcs), .int (nI sms)])), (qP1, .inl (cI, 7, .inl (fun k => nI (sn k)))), (qP2, .inl (cI, 56, .inl (upd cor ((kk * 8) + (sn kk)) v))), (qP3, .inl (cI, 40, .inl (fun k => nI (jn k))))] H := hP
    have hD : va_D A [(qP, .inr (1, [.ref qD, .ref qP1, .ref qP2, .ref qP3, .int (nI pcs), .int (nI sms)])), (qP1, .inl (cI, 7, .inl (fun k => nI (sn k)))), (qP2, .inl (cI, 56, .inl (upd cor ((kk * 8) + (sn kk)) v))), (qP3, .inl (cI, 40, .inl (fun k => nI (jn k))))] := hD
    refine lv_aload_n hx hb dX1_addCorner_31 rfl (lv_at hl 0 rfl) ?_
    refine va_get (D := G) (ci := 1) (v := .ref qP1) (C := RX1) (T := TX1) (N := 6) hx hb hts (fun _ h => List.mem_cons_of_mem _ (List.mem_append_right _ h)) hown hK.1 hP 0 rfl rfl 1 (by decide) (hts (.fieldLink RX1 9 "TailorHouse$Pattern" "sizes" "[I") (List.mem_of_getElem? (i := 1) rfl)) (fun _ h9 => h9) rfl dX1_addCorner_32 ?_
    refine lv_iload_n hx hb dX1_addCorner_35 rfl (lv_at hl 1 rfl) ?_
    refine lv_dup2_11 hx hb dX1_addCorner_36 rfl rfl ?_
    refine kx_ialdN hx hb hK.1 hP 1 rfl rfl kk (by omega) (by decide) dX1_addCorner_37 ?_
    refine lv_iconst (v := 1) hx hb dX1_addCorner_38 (by decide) ?_
    refine kx_iaddN hx hb (sn kk) 1 dX1_addCorner_39 ?_
    refine kx_iastN hx hb hK.1 hP hD hS 1 rfl rfl kk (by omega) (by decide) dX1_addCorner_40 (fun H locs hP hD hS => ?_)
    have hP : va_P G vwCl [(qP, .inr (1, [.ref qD, .ref qP1, .ref qP2, .ref qP3, .int (nI pcs), .int (nI sms)])), (qP1, .inl (cI, 7, .inl (upd (fun k => nI (sn k)) kk (nI ((sn kk) + 1))))), (qP2, .inl (cI, 56, .inl (upd cor ((kk * 8) + (sn kk)) v))), (qP3, .inl (cI, 40, .inl (fun k => nI (jn k))))] H := hP
    have hD : va_D A [(qP, .inr (1, [.ref qD, .ref qP1, .ref qP2, .ref qP3, .int (nI pcs), .int (nI sms)])), (qP1, .inl (cI, 7, .inl (upd (fun k => nI (sn k)) kk (nI ((sn kk) + 1))))), (qP2, .inl (cI, 56, .inl (upd cor ((kk * 8) + (sn kk)) v))), (qP3, .inl (cI, 40, .inl (fun k => nI (jn k))))] := hD
    refine lv_aload_n hx hb dX1_addCorner_41 rfl (lv_at hl 0 rfl) ?_
    refine va_get (D := G) (ci := 1) (v := .ref qP1) (C := RX1) (T := TX1) (N := 6) hx hb hts (fun _ h => List.mem_cons_of_mem _ (List.mem_append_right _ h)) hown hK.1 hP 0 rfl rfl 1 (by decide) (hts (.fieldLink RX1 9 "TailorHouse$Pattern" "sizes" "[I") (List.mem_of_getElem? (i := 1) rfl)) (fun _ h9 => h9) rfl dX1_addCorner_42 ?_
    refine lv_iload_n hx hb dX1_addCorner_45 rfl (lv_at hl 1 rfl) ?_
    refine kx_ialdN hx hb hK.1 hP 1 rfl rfl kk (by omega) (by decide) dX1_addCorner_46 ?_
    exact W.iret (v := ((upd (fun k => nI (sn k)) kk (nI ((sn kk) + 1))) kk)) hx hb hr (fun t ht hW => ⟨⟨((upd (fun k => nI (sn k)) kk (nI ((sn kk) + 1))) kk), (upd (fun k => nI (sn k)) kk (nI ((sn kk) + 1)), upd cor ((kk * 8) + (sn kk)) v), rfl, by simp [upd, c_1, Nat.not_le.mpr c_1], by (show va_P G vwCl _ t.heap; rw [ht]; exact hP)⟩, hS.F ht⟩) hS.2.2 dX1_addCorner_47 hlocks
  · skip
    refine lv_bipush (v := (-4)) hx hb dX1_addCorner_11 (by decide) ?_
    exact W.iret (v := (-4)) hx hb hr (fun t ht hW => ⟨⟨(-4), (fun k => nI (sn k), cor), rfl, by simp [upd, c_1, Nat.not_lt.mpr c_1], by (show va_P G vwCl _ t.heap; rw [ht]; exact hP)⟩, hS.F ht⟩) hS.2.2 dX1_addCorner_13 hlocks
theorem h_X1_addSeam (cI cZ : ClassId) (qP : Nat) (qD : Nat) (qP1 : Nat) (qP2 : Nat) (qP3 : Nat) (sn : Nat → Nat) (cor : Nat → Int32) (joi : Nat → Int32) (pcs : Nat) (sms : Nat) : ∀ u, (((fun u : (Nat → Int32) × Nat => [(qP, .inr (1, [.ref qD, .ref qP1, .ref qP2, .ref qP3, .int (nI pcs), .int (nI u.2)])), (qP1, .inl (cI, 7, .inl (fun k => nI (sn k)))), (qP2, .inl (cI, 56, .inl cor)), (qP3, .inl (cI, 40, .inl u.1))]) : ((Nat → Int32) × Nat) → va_W) u).map Prod.fst = ([(qP, .inr (1, [.ref qD, .ref qP1, .ref qP2, .ref qP3, .int (nI pcs), .int (nI sms)])), (qP1, .inl (cI, 7, .inl (fun k => nI (sn k)))), (qP2, .inl (cI, 56, .inl cor)), (qP3, .inl (cI, 40, .inl joi))] : va_W).map Prod.fst := fun _ => rfl
abbrev rm_X1_addSeam : Room := { frames := 0, cells := 0, slots := 0, locals := 0 }
set_option maxHeartbeats 4000000 in
set_option maxRecDepth 100000 in
theorem c_X1_addSeam (l : Launch) (G : va_G) (cI cZ : ClassId) (qP : Nat) (qD : Nat) (qP1 : Nat) (qP2 : Nat) (qP3 : Nat) (sn : Nat → Nat) (cor : Nat → Int32) (joi : Nat → Int32) (pcs : Nat) (sms : Nat) (sz : Nat) (a : Int32) (b : Int32) (cx : Int32) (d : Int32) (hsm : sms ≤ 10) : Met l yX1_addSeam wsX1_addSeam rm_X1_addSeam (kx_Pw G cI cZ [(qP, .inr (1, [.ref qD, .ref qP1, .ref qP2, .ref qP3, .int (nI pcs), .int (nI sms)])), (qP1, .inl (cI, 7, .inl (fun k => nI (sn k)))), (qP2, .inl (cI, 56, .inl cor)), (qP3, .inl (cI, 40, .inl joi))] sz [.ref qP, .int a, .int b, .int cx, .int d]) (va_Qi (fun (r : Int32) (u : (Nat → Int32) × Nat) => if sms < 10 then r = nI sms ∧ u.1 = upd (upd (upd (upd joi (sms * 4) a) (sms * 4 + 1) b) (sms * 4 + 2) cx) (sms * 4 + 3) d ∧ u.2 = sms + 1 else r = -4 ∧ u.1 = joi ∧ u.2 = sms) (fun u t => va_P G vwCl ((fun u : (Nat → Int32) × Nat => [(qP, .inr (1, [.ref qD, .ref qP1, .ref qP2, .ref qP3, .int (nI pcs), .int (nI u.2)])), (qP1, .inl (cI, 7, .inl (fun k => nI (sn k)))), (qP2, .inl (cI, 56, .inl cor)), (qP3, .inl (cI, 40, .inl u.1))]) u) t.heap) (va_A [(qP, .inr (1, [.ref qD, .ref qP1, .ref qP2, .ref qP3, .int (nI pcs), .int (nI sms)])), (qP1, .inl (cI, 7, .inl (fun k => nI (sn k)))), (qP2, .inl (cI, 56, .inl cor)), (qP3, .inl (cI, 40, .inl joi))] sz)) 0 0 (va_A [(qP, .inr (1, [.ref qD, .ref qP1, .ref qP2, .ref qP3, .int (nI pcs), .int (nI sms)])), (qP1, .inl (cI, 7, .inl (fun k => nI (sn k)))), (qP2, .inl (cI, 56, .inl cor)), (qP3, .inl (cI, 40, .inl joi))] sz) := by
  refine Met.ofW (cc := cX1_addSeam) (maxL := 5) (ret := (some .int)) (by decide) rfl ?_
  intro p e s m args below meth c s₁ B hml hv
  obtain ⟨rfl, hsz, hP, hD0, hK⟩ := hv
  have hx := B.exec
  have hb := B.bytes
  have hr := B.returns
  have hts := atoms_spec (ws := wsX1_addSeam) B.pre
  have hown : s.vm.findClass RX1 = some m.cls := findClass_of_methodNamed B.named
  have hlocks := B.notSynchronized
  subst hsz
  have hD := hD0.self (sz := s.heap.size)
  generalize hAe : va_A [(qP, .inr (1, [.ref qD, .ref qP1, .ref qP2, .ref qP3, .int (nI pcs), .int (nI sms)])), (qP1, .inl (cI, 7, .inl (fun k => nI (sn k)))), (qP2, .inl (cI, 56, .inl cor)), (qP3, .inl (cI, 40, .inl joi))] s.heap.size = A at hD ⊢
  have hA : ∀ q : Nat, s.heap.size ≤ q → A q := fun q h => by rw [← hAe]; exact Or.inr h
  have hS : va_S A s.heap s.heap [] := va_S.rf
  have hl := lv_entry ([.ref qP, .int a, .int b, .int cx, .int d]) (n := 5) (Nat.le_of_ble_eq_true rfl)
  rw [lg_entry_eq]
  generalize (lg_sl ([.ref qP, .int a, .int b, .int cx, .int d]) ++ List.replicate (5 - (lg_sl ([.ref qP, .int a, .int b, .int cx, .int d])).length) Slot.unset).toArray = ls at hl ⊢
  have hl : lv_has ls 5 [(0, .ref qP), (1, .int a), (2, .int b), (3, .int cx), (4, .int d)] := hl
  refine lv_aload_n hx hb dX1_addSeam_0 rfl (lv_at hl 0 rfl) ?_
  refine va_get (D := G) (ci := 1) (v := .int (nI sms)) (C := RX1) (T := TX1) (N := 6) hx hb hts (fun _ h => List.mem_cons_of_mem _ (List.mem_append_right _ h)) hown hK.1 hP 0 rfl rfl 5 (by decide) (hts (.fieldLink RX1 25 "TailorHouse$Pattern" "seams" "I") (List.mem_of_getElem? (i := 1) rfl)) (fun _ h9 => h9) rfl dX1_addSeam_1 ?_
  refine lv_bipush (v := 10) hx hb dX1_addSeam_4 (by decide) ?_
  refine kx_ltN hx hb sms 10 (by omega) (by omega) (tgt := 12) dX1_addSeam_6 (by decide) (fun c_1 => ?_) (fun c_1 => ?_)
  · skip
    refine lv_aload_n hx hb dX1_addSeam_12 rfl (lv_at hl 0 rfl) ?_
    refine va_get (D := G) (ci := 1) (v := .ref qP3) (C := RX1) (T := TX1) (N := 6) hx hb hts (fun _ h => List.mem_cons_of_mem _ (List.mem_append_right _ h)) hown hK.1 hP 0 rfl rfl 3 (by decide) (hts (.fieldLink RX1 18 "TailorHouse$Pattern" "joins" "[I") (List.mem_of_getElem? (i := 2) rfl)) (fun _ h9 => h9) rfl dX1_addSeam_13 ?_
    refine lv_aload_n hx hb dX1_addSeam_16 rfl (lv_at hl 0 rfl) ?_
    refine va_get (D := G) (ci := 1) (v := .int (nI sms)) (C := RX1) (T := TX1) (N := 6) hx hb hts (fun _ h => List.mem_cons_of_mem _ (List.mem_append_right _ h)) hown hK.1 hP 0 rfl rfl 5 (by decide) (hts (.fieldLink RX1 25 "TailorHouse$Pattern" "seams" "I") (List.mem_of_getElem? (i := 1) rfl)) (fun _ h9 => h9) rfl dX1_addSeam_17 ?_
    refine lv_iconst (v := 4) hx hb dX1_addSeam_20 (by decide) ?_
    refine kx_imulN hx hb sms 4 dX1_addSeam_21 ?_
    refine lv_iload_n hx hb dX1_addSeam_22 rfl (lv_at hl 1 rfl) ?_
    refine kx_iastN hx hb hK.1 hP hD hS 3 rfl rfl (sms * 4) (by omega) (by decide) dX1_addSeam_23 (fun H locs hP hD hS => ?_)
    have hP : va_P G vwCl [(qP, .inr (1, [.ref qD, .ref qP1, .ref qP2, .ref qP3, .int (nI pcs), .int (nI sms)])), (qP1, .inl (cI, 7, .inl (fun k => nI (sn k)))), (qP2, .inl (cI, 56, .inl cor)), (qP3, .inl (cI, 40, .inl (upd joi (sms * 4) a)))] H := hP
    have hD : va_D A [(qP, .inr (1, [.ref qD, .ref qP1, .ref qP2, .ref qP3, .int (nI pcs), .int (nI sms)])), (qP1, .inl (cI, 7, .inl (fun k => nI (sn k)))), (qP2, .inl (cI, 56, .inl cor)), (qP3, .inl (cI, 40, .inl (upd joi (sms * 4) a)))] := hD
    refine lv_aload_n hx hb dX1_addSeam_24 rfl (lv_at hl 0 rfl) ?_
    refine va_get (D := G) (ci := 1) (v := .ref qP3) (C := RX1) (T := TX1) (N := 6) hx hb hts (fun _ h => List.mem_cons_of_mem _ (List.mem_append_right _ h)) hown hK.1 hP 0 rfl rfl 3 (by decide) (hts (.fieldLink RX1 18 "TailorHouse$Pattern" "joins" "[I") (List.mem_of_getElem? (i := 2) rfl)) (fun _ h9 => h9) rfl dX1_addSeam_25 ?_
    refine lv_aload_n hx hb dX1_addSeam_28 rfl (lv_at hl 0 rfl) ?_
    refine va_get (D := G) (ci := 1) (v := .int (nI sms)) (C := RX1) (T := TX1) (N := 6) hx hb hts (fun _ h => List.mem_cons_of_mem _ (List.mem_append_right _ h)) hown hK.1 hP 0 rfl rfl 5 (by decide) (hts (.fieldLink RX1 25 "TailorHouse$Pattern" "seams" "I") (List.mem_of_getElem? (i := 1) rfl)) (fun _ h9 => h9) rfl dX1_addSeam_29 ?_
    refine lv_iconst (v := 4) hx hb dX1_addSeam_32 (by decide) ?_
    refine kx_imulN hx hb sms 4 dX1_addSeam_33 ?_
    refine lv_iconst (v := 1) hx hb dX1_addSeam_34 (by decide) ?_
    refine kx_iaddN hx hb (sms * 4) 1 dX1_addSeam_35 ?_
    refine lv_iload_n hx hb dX1_addSeam_36 rfl (lv_at hl 2 rfl) ?_
    refine kx_iastN hx hb hK.1 hP hD hS 3 rfl rfl ((sms * 4) + 1) (by omega) (by decide) dX1_addSeam_37 (fun H locs hP hD hS => ?_)
    have hP : va_P G vwCl [(qP, .inr (1, [.ref qD, .ref qP1, .ref qP2, .ref qP3, .int (nI pcs), .int (nI sms)])), (qP1, .inl (cI, 7, .inl (fun k => nI (sn k)))), (qP2, .inl (cI, 56, .inl cor)), (qP3, .inl (cI, 40, .inl (upd (upd joi (sms * 4) a) ((sms * 4) + 1) b)))] H := hP
    have hD : va_D A [(qP, .inr (1, [.ref qD, .ref qP1, .ref qP2, .ref qP3, .int (nI pcs), .int (nI sms)])), (qP1, .inl (cI, 7, .inl (fun k => nI (sn k)))), (qP2, .inl (cI, 56, .inl cor)), (qP3, .inl (cI, 40, .inl (upd (upd joi (sms * 4) a) ((sms * 4) + 1) b)))] := hD
    refine lv_aload_n hx hb dX1_addSeam_38 rfl (lv_at hl 0 rfl) ?_
    refine va_get (D := G) (ci := 1) (v := .ref qP3) (C := RX1) (T := TX1) (N := 6) hx hb hts (fun _ h => List.mem_cons_of_mem _ (List.mem_append_right _ h)) hown hK.1 hP 0 rfl rfl 3 (by decide) (hts (.fieldLink RX1 18 "TailorHouse$Pattern" "joins" "[I") (List.mem_of_getElem? (i := 2) rfl)) (fun _ h9 => h9) rfl dX1_addSeam_39 ?_
    refine lv_aload_n hx hb dX1_addSeam_42 rfl (lv_at hl 0 rfl) ?_
    refine va_get (D := G) (ci := 1) (v := .int (nI sms)) (C := RX1) (T := TX1) (N := 6) hx hb hts (fun _ h => List.mem_cons_of_mem _ (List.mem_append_right _ h)) hown hK.1 hP 0 rfl rfl 5 (by decide) (hts (.fieldLink RX1 25 "TailorHouse$Pattern" "seams" "I") (List.mem_of_getElem? (i := 1) rfl)) (fun _ h9 => h9) rfl dX1_addSeam_43 ?_
    refine lv_iconst (v := 4) hx hb dX1_addSeam_46 (by decide) ?_
    refine kx_imulN hx hb sms 4 dX1_addSeam_47 ?_
    refine lv_iconst (v := 2) hx hb dX1_addSeam_48 (by decide) ?_
    refine kx_iaddN hx hb (sms * 4) 2 dX1_addSeam_49 ?_
    refine lv_iload_n hx hb dX1_addSeam_50 rfl (lv_at hl 3 rfl) ?_
    refine kx_iastN hx hb hK.1 hP hD hS 3 rfl rfl ((sms * 4) + 2) (by omega) (by decide) dX1_addSeam_51 (fun H locs hP hD hS => ?_)
    have hP : va_P G vwCl [(qP, .inr (1, [.ref qD, .ref qP1, .ref qP2, .ref qP3, .int (nI pcs), .int (nI sms)])), (qP1, .inl (cI, 7, .inl (fun k => nI (sn k)))), (qP2, .inl (cI, 56, .inl cor)), (qP3, .inl (cI, 40, .inl (upd (upd (upd joi (sms * 4) a) ((sms * 4) + 1) b) ((sms * 4) + 2) cx)))] H := hP
    have hD : va_D A [(qP, .inr (1, [.ref qD, .ref qP1, .ref qP2, .ref qP3, .int (nI pcs), .int (nI sms)])), (qP1, .inl (cI, 7, .inl (fun k => nI (sn k)))), (qP2, .inl (cI, 56, .inl cor)), (qP3, .inl (cI, 40, .inl (upd (upd (upd joi (sms * 4) a) ((sms * 4) + 1) b) ((sms * 4) + 2) cx)))] := hD
    refine lv_aload_n hx hb dX1_addSeam_52 rfl (lv_at hl 0 rfl) ?_
    refine va_get (D := G) (ci := 1) (v := .ref qP3) (C := RX1) (T := TX1) (N := 6) hx hb hts (fun _ h => List.mem_cons_of_mem _ (List.mem_append_right _ h)) hown hK.1 hP 0 rfl rfl 3 (by decide) (hts (.fieldLink RX1 18 "TailorHouse$Pattern" "joins" "[I") (List.mem_of_getElem? (i := 2) rfl)) (fun _ h9 => h9) rfl dX1_addSeam_53 ?_
    refine lv_aload_n hx hb dX1_addSeam_56 rfl (lv_at hl 0 rfl) ?_
    refine va_get (D := G) (ci := 1) (v := .int (nI sms)) (C := RX1) (T := TX1) (N := 6) hx hb hts (fun _ h => List.mem_cons_of_mem _ (List.mem_append_right _ h)) hown hK.1 hP 0 rfl rfl 5 (by decide) (hts (.fieldLink RX1 25 "TailorHouse$Pattern" "seams" "I") (List.mem_of_getElem? (i := 1) rfl)) (fun _ h9 => h9) rfl dX1_addSeam_57 ?_
    refine lv_iconst (v := 4) hx hb dX1_addSeam_60 (by decide) ?_
    refine kx_imulN hx hb sms 4 dX1_addSeam_61 ?_
    refine lv_iconst (v := 3) hx hb dX1_addSeam_62 (by decide) ?_
    refine kx_iaddN hx hb (sms * 4) 3 dX1_addSeam_63 ?_
    refine lv_iload hx hb dX1_addSeam_64 (lv_at hl 4 rfl) ?_
    refine kx_iastN hx hb hK.1 hP hD hS 3 rfl rfl ((sms * 4) + 3) (by omega) (by decide) dX1_addSeam_66 (fun H locs hP hD hS => ?_)
    have hP : va_P G vwCl [(qP, .inr (1, [.ref qD, .ref qP1, .ref qP2, .ref qP3, .int (nI pcs), .int (nI sms)])), (qP1, .inl (cI, 7, .inl (fun k => nI (sn k)))), (qP2, .inl (cI, 56, .inl cor)), (qP3, .inl (cI, 40, .inl (upd (upd (upd (upd joi (sms * 4) a) ((sms * 4) + 1) b) ((sms * 4) + 2) cx) ((sms * 4) + 3) d)))] H := hP
    have hD : va_D A [(qP, .inr (1, [.ref qD, .ref qP1, .ref qP2, .ref qP3, .int (nI pcs), .int (nI sms)])), (qP1, .inl (cI, 7, .inl (fun k => nI (sn k)))), (qP2, .inl (cI, 56, .inl cor)), (qP3, .inl (cI, 40, .inl (upd (upd (upd (upd joi (sms * 4) a) ((sms * 4) + 1) b) ((sms * 4) + 2) cx) ((sms * 4) + 3) d)))] := hD
    refine lv_aload_n hx hb dX1_addSeam_67 rfl (lv_at hl 0 rfl) ?_
    refine lv_dup hx hb dX1_addSeam_68 rfl ?_
    refine va_get (D := G) (ci := 1) (v := .int (nI sms)) (C := RX1) (T := TX1) (N := 6) hx hb hts (fun _ h => List.mem_cons_of_mem _ (List.mem_append_right _ h)) hown hK.1 hP 0 rfl rfl 5 (by decide) (hts (.fieldLink RX1 25 "TailorHouse$Pattern" "seams" "I") (List.mem_of_getElem? (i := 1) rfl)) (fun _ h9 => h9) rfl dX1_addSeam_69 ?_
    refine lv_iconst (v := 1) hx hb dX1_addSeam_72 (by decide) ?_
    refine kx_iaddN hx hb sms 1 dX1_addSeam_73 ?_
    refine va_put (D := G) (ci := 1) (v := .int (nI (sms + 1))) (ty := .int) (C := RX1) (T := TX1) (N := 6) hx hb hts (fun _ h => List.mem_cons_of_mem _ (List.mem_append_right _ h)) tyX1 tyX1_ok nmX1 hown hK.1 hP hD hS 0 rfl rfl 5 (by decide) (hts (.fieldLink RX1 25 "TailorHouse$Pattern" "seams" "I") (List.mem_of_getElem? (i := 1) rfl)) (fun _ h9 => h9) rfl (by decide +kernel) rfl rfl (Nat.le_of_ble_eq_true rfl) dX1_addSeam_74 (fun H locs hP hD hS => ?_)
    have hP : va_P G vwCl [(qP, .inr (1, [.ref qD, .ref qP1, .ref qP2, .ref qP3, .int (nI pcs), .int (nI (sms + 1))])), (qP1, .inl (cI, 7, .inl (fun k => nI (sn k)))), (qP2, .inl (cI, 56, .inl cor)), (qP3, .inl (cI, 40, .inl (upd (upd (upd (upd joi (sms * 4) a) ((sms * 4) + 1) b) ((sms * 4) + 2) cx) ((sms * 4) + 3) d)))] H := hP
    have hD : va_D A [(qP, .inr (1, [.ref qD, .ref qP1, .ref qP2, .ref qP3, .int (nI pcs), .int (nI (sms + 1))])), (qP1, .inl (cI, 7, .inl (fun k => nI (sn k)))), (qP2, .inl (cI, 56, .inl cor)), (qP3, .inl (cI, 40, .inl (upd (upd (upd (upd joi (sms * 4) a) ((sms * 4) + 1) b) ((sms * 4) + 2) cx) ((sms * 4) + 3) d)))] := hD
    refine lv_aload_n hx hb dX1_addSeam_77 rfl (lv_at hl 0 rfl) ?_
    refine va_get (D := G) (ci := 1) (v := .int (nI (sms + 1))) (C := RX1) (T := TX1) (N := 6) hx hb hts (fun _ h => List.mem_cons_of_mem _ (List.mem_append_right _ h)) hown hK.1 hP 0 rfl rfl 5 (by decide) (hts (.fieldLink RX1 25 "TailorHouse$Pattern" "seams" "I") (List.mem_of_getElem? (i := 1) rfl)) (fun _ h9 => h9) rfl dX1_addSeam_78 ?_
    refine lv_iconst (v := 1) hx hb dX1_addSeam_81 (by decide) ?_
    refine kx_isubN hx hb (sms + 1) 1 (by omega) dX1_addSeam_82 ?_
    exact W.iret (v := (nI ((sms + 1) - 1))) hx hb hr (fun t ht hW => ⟨⟨(nI ((sms + 1) - 1)), (upd (upd (upd (upd joi (sms * 4) a) ((sms * 4) + 1) b) ((sms * 4) + 2) cx) ((sms * 4) + 3) d, sms + 1), rfl, by simp [c_1, Nat.not_le.mpr c_1], by (show va_P G vwCl _ t.heap; rw [ht]; exact hP)⟩, hS.F ht⟩) hS.2.2 dX1_addSeam_83 hlocks
  · skip
    refine lv_bipush (v := (-4)) hx hb dX1_addSeam_9 (by decide) ?_
    exact W.iret (v := (-4)) hx hb hr (fun t ht hW => ⟨⟨(-4), (joi, sms), rfl, by simp [c_1, Nat.not_lt.mpr c_1], by (show va_P G vwCl _ t.heap; rw [ht]; exact hP)⟩, hS.F ht⟩) hS.2.2 dX1_addSeam_11 hlocks
abbrev rm_X1_sideLength : Room := { frames := 2, cells := 0, slots := 0, locals := 44 }
set_option maxHeartbeats 4000000 in
set_option maxRecDepth 100000 in
theorem c_X1_sideLength (l : Launch) (G : va_G) (cI cZ : ClassId) (qP : Nat) (qD : Nat) (qP1 : Nat) (qP2 : Nat) (qP3 : Nat) (sn : Nat → Nat) (cor : Nat → Int32) (jn : Nat → Nat) (pcs : Nat) (sms : Nat) (hT : Nat) (qD1 : Nat) (qD2 : Nat) (qD3 : Nat) (qD4 : Nat) (qD5 : Nat) (qD6 : Nat) (qD7 : Nat) (qD8 : Nat) (kd : Nat → Int32) (ba : Nat → Int32) (ot : Nat → Int32) (aa : Nat → Int32) (bb : Nat → Int32) (bm : Nat → Int32) (xx : Nat → Int32) (yy : Nat → Int32) (pts : Nat) (kk : Nat) (i : Nat) (hpc : pcs ≤ 7) (hs8 : ∀ k, k < pcs → sn k ≤ 8) (hco : ∀ k i, k < pcs → i < sn k → vp_in (cor (k * 8 + i)) 20) (hk : kk < pcs) (hi : i < sn kk) : Met l yX1_sideLength wsX1_sideLength rm_X1_sideLength (kx_Pr G cI cZ [(qD, .inr (0, [.ref hT, .ref qD1, .ref qD2, .ref qD3, .ref qD4, .ref qD5, .ref qD6, .ref qD7, .ref qD8, .int (nI pts)])), (qD1, .inl (cI, 20, .inl kd)), (qD2, .inl (cI, 20, .inl ba)), (qD3, .inl (cI, 20, .inl ot)), (qD4, .inl (cI, 20, .inl aa)), (qD5, .inl (cI, 20, .inl bb)), (qD6, .inl (cI, 6, .inl bm)), (qD7, .inl (cI, 20, .inl xx)), (qD8, .inl (cI, 20, .inl yy)), (qP, .inr (1, [.ref qD, .ref qP1, .ref qP2, .ref qP3, .int (nI pcs), .int (nI sms)])), (qP1, .inl (cI, 7, .inl (fun k => nI (sn k)))), (qP2, .inl (cI, 56, .inl cor)), (qP3, .inl (cI, 40, .inl (fun k => nI (jn k))))] [.ref qP, .int (nI kk), .int (nI i)]) (QcRead (kLen xx yy cor sn kk i)) 0 0 (fun _ => False) := by
  refine Met.ofW (cc := cX1_sideLength) (maxL := 9) (ret := (some .int)) (by decide) rfl ?_
  intro p e s m args below meth c s₁ B hml hv
  obtain ⟨rfl, hP, hK⟩ := hv
  have hx := B.exec
  have hb := B.bytes
  have hr := B.returns
  have hts := atoms_spec (ws := wsX1_sideLength) B.pre
  have hown : s.vm.findClass RX1 = some m.cls := findClass_of_methodNamed B.named
  have hlocks := B.notSynchronized
  have hl := lv_entry ([.ref qP, .int (nI kk), .int (nI i)]) (n := 9) (Nat.le_of_ble_eq_true rfl)
  rw [lg_entry_eq]
  generalize (lg_sl ([.ref qP, .int (nI kk), .int (nI i)]) ++ List.replicate (9 - (lg_sl ([.ref qP, .int (nI kk), .int (nI i)])).length) Slot.unset).toArray = ls at hl ⊢
  have hl : lv_has ls 9 [(0, .ref qP), (1, .int (nI kk)), (2, .int (nI i))] := hl
  refine lv_aload_n hx hb dX1_sideLength_0 rfl (lv_at hl 0 rfl) ?_
  refine lv_iload_n hx hb dX1_sideLength_1 rfl (lv_at hl 1 rfl) ?_
  refine lv_iload_n hx hb dX1_sideLength_2 rfl (lv_at hl 2 rfl) ?_
  refine kx_ri (va_runV (As := [.int (nI kk), .int (nI i)]) (rest := []) ⟨hx, hb, hml, hown, hts⟩ (c_X1_corner l G cI cZ qP qD qP1 qP2 qP3 sn cor jn pcs sms kk i (by omega) (Nat.lt_of_lt_of_le hi (hs8 kk hk))) (cwV 2 hts gX1_sideLength_X1_corner rfl rfl rfl (by decide +kernel) ⟨(Nat.le_of_ble_eq_true rfl), (Nat.le_of_ble_eq_true rfl)⟩) (kx_preR hK (kx_sub 9 4 hP rfl) 0 rfl rfl) rfl rfl hl.1 rfl (lv_room (Nat.le_of_ble_eq_true rfl)) dX1_sideLength_3 ⟨Nat.zero_le _, Nat.zero_le _⟩) ?_
  refine lv_istore_n (lv' := [(3, .int (cor (kk * 8 + i))), (0, .ref qP), (1, .int (nI kk)), (2, .int (nI i))]) hx hb dX1_sideLength_6 rfl hl (by decide) rfl (fun ls hl => ?_)
  refine lv_aload_n hx hb dX1_sideLength_7 rfl (lv_at hl 1 rfl) ?_
  refine lv_iload_n hx hb dX1_sideLength_8 rfl (lv_at hl 2 rfl) ?_
  refine lv_iload_n hx hb dX1_sideLength_9 rfl (lv_at hl 3 rfl) ?_
  refine kx_ri (va_runV (As := [.int (nI kk), .int (nI i)]) (rest := []) ⟨hx, hb, hml, hown, hts⟩ (c_X1_cornerAfter l G cI cZ qP qD qP1 qP2 qP3 sn cor jn pcs sms kk i (by omega) (hs8 kk hk) (Nat.lt_of_lt_of_le hi (hs8 kk hk))) (cwV 2 hts gX1_sideLength_X1_cornerAfter rfl rfl rfl (by decide +kernel) ⟨(Nat.le_of_ble_eq_true rfl), (Nat.le_of_ble_eq_true rfl)⟩) (kx_preR hK (kx_sub 9 4 hP rfl) 0 rfl rfl) rfl rfl hl.1 rfl (lv_room (Nat.le_of_ble_eq_true rfl)) dX1_sideLength_10 ⟨Nat.zero_le _, Nat.zero_le _⟩) ?_
  refine lv_istore (lv' := [(4, .int (cor (kk * 8 + kNx (sn kk) i))), (3, .int (cor (kk * 8 + i))), (0, .ref qP), (1, .int (nI kk)), (2, .int (nI i))]) hx hb dX1_sideLength_13 hl (by decide) rfl (fun ls hl => ?_)
  refine lv_aload_n hx hb dX1_sideLength_15 rfl (lv_at hl 2 rfl) ?_
  refine va_get (D := G) (ci := 1) (v := .ref qD) (C := RX1) (T := TX1) (N := 6) hx hb hts (fun _ h => List.mem_cons_of_mem _ (List.mem_append_left _ (List.mem_append_right _ h))) hown hK.1 hP 9 rfl rfl 0 (by decide) (hts (.fieldLink RX1 28 "TailorHouse$Pattern" "draft" "LTailorHouse$Draft;") (List.mem_of_getElem? (i := 1) rfl)) (fun _ h9 => h9) rfl dX1_sideLength_16 ?_
  refine va_getN (D := G) (ci := 0) (v := .ref qD7) (C := RX0) (T := TX0) (N := 10) hx hb hts (fun _ h => List.mem_cons_of_mem _ (List.mem_append_right _ h)) hown hK.1 hP 0 rfl rfl 7 (by decide) (va_Nw.use rfl (hK.2 _ (List.mem_of_getElem? (i := 1) rfl))) (fun _ h9 => h9) rfl dX1_sideLength_19 ?_
  refine lv_iload hx hb dX1_sideLength_22 (lv_at hl 0 rfl) ?_
  refine va_iald hx hb hK.1 hP 7 0 rfl rfl (hco kk (kNx (sn kk) i) hk (kNx_lt hi)) dX1_sideLength_24 ?_
  refine lv_aload_n hx hb dX1_sideLength_25 rfl (lv_at hl 2 rfl) ?_
  refine va_get (D := G) (ci := 1) (v := .ref qD) (C := RX1) (T := TX1) (N := 6) hx hb hts (fun _ h => List.mem_cons_of_mem _ (List.mem_append_left _ (List.mem_append_right _ h))) hown hK.1 hP 9 rfl rfl 0 (by decide) (hts (.fieldLink RX1 28 "TailorHouse$Pattern" "draft" "LTailorHouse$Draft;") (List.mem_of_getElem? (i := 1) rfl)) (fun _ h9 => h9) rfl dX1_sideLength_26 ?_
  refine va_getN (D := G) (ci := 0) (v := .ref qD7) (C := RX0) (T := TX0) (N := 10) hx hb hts (fun _ h => List.mem_cons_of_mem _ (List.mem_append_right _ h)) hown hK.1 hP 0 rfl rfl 7 (by decide) (va_Nw.use rfl (hK.2 _ (List.mem_of_getElem? (i := 1) rfl))) (fun _ h9 => h9) rfl dX1_sideLength_29 ?_
  refine lv_iload_n hx hb dX1_sideLength_32 rfl (lv_at hl 1 rfl) ?_
  refine va_iald hx hb hK.1 hP 7 0 rfl rfl (hco kk i hk hi) dX1_sideLength_33 ?_
  refine lv_isub hx hb dX1_sideLength_34 ?_
  refine lv_i2l hx hb dX1_sideLength_35 rfl ?_
  refine lv_lstore (lv' := [(5, .long (((xx (cor (kk * 8 + kNx (sn kk) i)).toNatClampNeg) - (xx (cor (kk * 8 + i)).toNatClampNeg)).toInt64)), (4, .int (cor (kk * 8 + kNx (sn kk) i))), (3, .int (cor (kk * 8 + i))), (0, .ref qP), (1, .int (nI kk)), (2, .int (nI i))]) hx hb dX1_sideLength_36 hl (by decide) rfl (fun ls hl => ?_)
  refine lv_aload_n hx hb dX1_sideLength_38 rfl (lv_at hl 3 rfl) ?_
  refine va_get (D := G) (ci := 1) (v := .ref qD) (C := RX1) (T := TX1) (N := 6) hx hb hts (fun _ h => List.mem_cons_of_mem _ (List.mem_append_left _ (List.mem_append_right _ h))) hown hK.1 hP 9 rfl rfl 0 (by decide) (hts (.fieldLink RX1 28 "TailorHouse$Pattern" "draft" "LTailorHouse$Draft;") (List.mem_of_getElem? (i := 1) rfl)) (fun _ h9 => h9) rfl dX1_sideLength_39 ?_
  refine va_getN (D := G) (ci := 0) (v := .ref qD8) (C := RX0) (T := TX0) (N := 10) hx hb hts (fun _ h => List.mem_cons_of_mem _ (List.mem_append_right _ h)) hown hK.1 hP 0 rfl rfl 8 (by decide) (va_Nw.use rfl (hK.2 _ (List.mem_of_getElem? (i := 3) rfl))) (fun _ h9 => h9) rfl dX1_sideLength_42 ?_
  refine lv_iload hx hb dX1_sideLength_45 (lv_at hl 1 rfl) ?_
  refine va_iald hx hb hK.1 hP 8 0 rfl rfl (hco kk (kNx (sn kk) i) hk (kNx_lt hi)) dX1_sideLength_47 ?_
  refine lv_aload_n hx hb dX1_sideLength_48 rfl (lv_at hl 3 rfl) ?_
  refine va_get (D := G) (ci := 1) (v := .ref qD) (C := RX1) (T := TX1) (N := 6) hx hb hts (fun _ h => List.mem_cons_of_mem _ (List.mem_append_left _ (List.mem_append_right _ h))) hown hK.1 hP 9 rfl rfl 0 (by decide) (hts (.fieldLink RX1 28 "TailorHouse$Pattern" "draft" "LTailorHouse$Draft;") (List.mem_of_getElem? (i := 1) rfl)) (fun _ h9 => h9) rfl dX1_sideLength_49 ?_
  refine va_getN (D := G) (ci := 0) (v := .ref qD8) (C := RX0) (T := TX0) (N := 10) hx hb hts (fun _ h => List.mem_cons_of_mem _ (List.mem_append_right _ h)) hown hK.1 hP 0 rfl rfl 8 (by decide) (va_Nw.use rfl (hK.2 _ (List.mem_of_getElem? (i := 3) rfl))) (fun _ h9 => h9) rfl dX1_sideLength_52 ?_
  refine lv_iload_n hx hb dX1_sideLength_55 rfl (lv_at hl 2 rfl) ?_
  refine va_iald hx hb hK.1 hP 8 0 rfl rfl (hco kk i hk hi) dX1_sideLength_56 ?_
  refine lv_isub hx hb dX1_sideLength_57 ?_
  refine lv_i2l hx hb dX1_sideLength_58 rfl ?_
  refine lv_lstore (lv' := [(7, .long (((yy (cor (kk * 8 + kNx (sn kk) i)).toNatClampNeg) - (yy (cor (kk * 8 + i)).toNatClampNeg)).toInt64)), (5, .long (((xx (cor (kk * 8 + kNx (sn kk) i)).toNatClampNeg) - (xx (cor (kk * 8 + i)).toNatClampNeg)).toInt64)), (4, .int (cor (kk * 8 + kNx (sn kk) i))), (3, .int (cor (kk * 8 + i))), (0, .ref qP), (1, .int (nI kk)), (2, .int (nI i))]) hx hb dX1_sideLength_59 hl (by decide) rfl (fun ls hl => ?_)
  refine lv_ldc2 (v := 100) hx hb hown (hts (.constantLong RX1 55 (100)) (List.mem_of_getElem? (i := 2) rfl)) dX1_sideLength_61 ?_
  refine lv_lload hx hb dX1_sideLength_64 (lv_at hl 1 rfl) ?_
  refine lv_lload hx hb dX1_sideLength_66 (lv_at hl 1 rfl) ?_
  refine lv_lmul hx hb dX1_sideLength_68 ?_
  refine lv_lload hx hb dX1_sideLength_69 (lv_at hl 0 rfl) ?_
  refine lv_lload hx hb dX1_sideLength_71 (lv_at hl 0 rfl) ?_
  refine lv_lmul hx hb dX1_sideLength_73 ?_
  refine lv_ladd hx hb dX1_sideLength_74 ?_
  refine lv_lmul hx hb dX1_sideLength_75 ?_
  refine kx_ri (va_runSN (As := [.long (100 * (((((xx (cor (kk * 8 + kNx (sn kk) i)).toNatClampNeg) - (xx (cor (kk * 8 + i)).toNatClampNeg)).toInt64) * (((xx (cor (kk * 8 + kNx (sn kk) i)).toNatClampNeg) - (xx (cor (kk * 8 + i)).toNatClampNeg)).toInt64)) + ((((yy (cor (kk * 8 + kNx (sn kk) i)).toNatClampNeg) - (yy (cor (kk * 8 + i)).toNatClampNeg)).toInt64) * (((yy (cor (kk * 8 + kNx (sn kk) i)).toNatClampNeg) - (yy (cor (kk * 8 + i)).toNatClampNeg)).toInt64))))]) (rest := []) ⟨hx, hb, hml, hown, hts⟩ (c_X5_root l (100 * (((((xx (cor (kk * 8 + kNx (sn kk) i)).toNatClampNeg) - (xx (cor (kk * 8 + i)).toNatClampNeg)).toInt64) * (((xx (cor (kk * 8 + kNx (sn kk) i)).toNatClampNeg) - (xx (cor (kk * 8 + i)).toNatClampNeg)).toInt64)) + ((((yy (cor (kk * 8 + kNx (sn kk) i)).toNatClampNeg) - (yy (cor (kk * 8 + i)).toNatClampNeg)).toInt64) * (((yy (cor (kk * 8 + kNx (sn kk) i)).toNatClampNeg) - (yy (cor (kk * 8 + i)).toNatClampNeg)).toInt64))))) ⟨va_cnB 1 hts gX1_sideLength_X5_root_n57 rfl rfl rfl (hK.2 _ (List.mem_of_getElem? (i := 21) rfl)) (hts (.initialized RX5) (List.mem_of_getElem? (i := 15) rfl)) (by decide +kernel) ⟨(Nat.le_of_ble_eq_true rfl), (Nat.le_of_ble_eq_true rfl)⟩, (hts (.static yX5_root) (List.mem_of_getElem? (i := 14) rfl)), trivial⟩ kx_preS rfl rfl hl.1 rfl (lv_room (Nat.le_of_ble_eq_true rfl)) dX1_sideLength_76 ⟨Nat.zero_le _, Nat.zero_le _⟩) ?_
  exact kx_iret hx hb hr (v := (kroot (100 * (((((xx (cor (kk * 8 + kNx (sn kk) i)).toNatClampNeg) - (xx (cor (kk * 8 + i)).toNatClampNeg)).toInt64) * (((xx (cor (kk * 8 + kNx (sn kk) i)).toNatClampNeg) - (xx (cor (kk * 8 + i)).toNatClampNeg)).toInt64)) + ((((yy (cor (kk * 8 + kNx (sn kk) i)).toNatClampNeg) - (yy (cor (kk * 8 + i)).toNatClampNeg)).toInt64) * (((yy (cor (kk * 8 + kNx (sn kk) i)).toNatClampNeg) - (yy (cor (kk * 8 + i)).toNatClampNeg)).toInt64)))))) (rfl) dX1_sideLength_79 hlocks
abbrev rm_X1_doubleArea : Room := { frames := 2, cells := 0, slots := 0, locals := 44 }
set_option maxHeartbeats 4000000 in
set_option maxRecDepth 100000 in
theorem c_X1_doubleArea (l : Launch) (G : va_G) (cI cZ : ClassId) (qP : Nat) (qD : Nat) (qP1 : Nat) (qP2 : Nat) (qP3 : Nat) (sn : Nat → Nat) (cor : Nat → Int32) (jn : Nat → Nat) (pcs : Nat) (sms : Nat) (hT : Nat) (qD1 : Nat) (qD2 : Nat) (qD3 : Nat) (qD4 : Nat) (qD5 : Nat) (qD6 : Nat) (qD7 : Nat) (qD8 : Nat) (kd : Nat → Int32) (ba : Nat → Int32) (ot : Nat → Int32) (aa : Nat → Int32) (bb : Nat → Int32) (bm : Nat → Int32) (xx : Nat → Int32) (yy : Nat → Int32) (pts : Nat) (kk : Nat) (hpc : pcs ≤ 7) (hs8 : ∀ k, k < pcs → sn k ≤ 8) (hco : ∀ k i, k < pcs → i < sn k → vp_in (cor (k * 8 + i)) 20) (hk : kk < pcs) : Met l yX1_doubleArea wsX1_doubleArea rm_X1_doubleArea (kx_Pr G cI cZ [(qD, .inr (0, [.ref hT, .ref qD1, .ref qD2, .ref qD3, .ref qD4, .ref qD5, .ref qD6, .ref qD7, .ref qD8, .int (nI pts)])), (qD1, .inl (cI, 20, .inl kd)), (qD2, .inl (cI, 20, .inl ba)), (qD3, .inl (cI, 20, .inl ot)), (qD4, .inl (cI, 20, .inl aa)), (qD5, .inl (cI, 20, .inl bb)), (qD6, .inl (cI, 6, .inl bm)), (qD7, .inl (cI, 20, .inl xx)), (qD8, .inl (cI, 20, .inl yy)), (qP, .inr (1, [.ref qD, .ref qP1, .ref qP2, .ref qP3, .int (nI pcs), .int (nI sms)])), (qP1, .inl (cI, 7, .inl (fun k => nI (sn k)))), (qP2, .inl (cI, 56, .inl cor)), (qP3, .inl (cI, 40, .inl (fun k => nI (jn k))))] [.ref qP, .int (nI kk)]) (kx_QL (kArea xx yy cor sn kk)) 0 0 (fun _ => False) := by
  refine Met.ofW (cc := cX1_doubleArea) (maxL := 7) (ret := (some .long)) (by decide) rfl ?_
  intro p e s m args below meth c s₁ B hml hv
  obtain ⟨rfl, hP, hK⟩ := hv
  have hx := B.exec
  have hb := B.bytes
  have hr := B.returns
  have hts := atoms_spec (ws := wsX1_doubleArea) B.pre
  have hown : s.vm.findClass RX1 = some m.cls := findClass_of_methodNamed B.named
  have hlocks := B.notSynchronized
  have hl := lv_entry ([.ref qP, .int (nI kk)]) (n := 7) (Nat.le_of_ble_eq_true rfl)
  rw [lg_entry_eq]
  generalize (lg_sl ([.ref qP, .int (nI kk)]) ++ List.replicate (7 - (lg_sl ([.ref qP, .int (nI kk)])).length) Slot.unset).toArray = ls at hl ⊢
  have hl : lv_has ls 7 [(0, .ref qP), (1, .int (nI kk))] := hl
  refine lv_lconst (v := 0) hx hb dX1_doubleArea_0 (by decide) ?_
  refine lv_lstore_n (lv' := [(2, .long 0), (0, .ref qP), (1, .int (nI kk))]) hx hb dX1_doubleArea_1 rfl hl (by decide) rfl (fun ls hl => ?_)
  refine lv_iconst (v := 0) hx hb dX1_doubleArea_2 (by decide) ?_
  refine lv_istore (lv' := [(4, .int 0), (2, .long 0), (0, .ref qP), (1, .int (nI kk))]) hx hb dX1_doubleArea_3 hl (by decide) rfl (fun ls hl => ?_)
  have lab_5_1 : ∀ (nn_1 : Nat) (i : Nat) (z1_0 : Int64) (z1_1 : Nat) (hi : i ≤ sn kk) (ez1_0 : (kAr xx yy cor sn kk i) = z1_0) (ez1_1 : i = z1_1) (ls : Array Slot) (hl : lv_has ls 7 [(4, .int (nI z1_1)), (2, .long z1_0), (0, .ref qP), (1, .int (nI kk))]), (sn kk - i) < nn_1 → W p l e (headSpec wsX1_doubleArea rm_X1_doubleArea).room s m ([.ref qP, .int (nI kk)] : List Value).toArray below meth c s.heap [] 0 0 (MQ below (kx_QL (kArea xx yy cor sn kk)) ([.ref qP, .int (nI kk)] : List Value).toArray s 0 0 (fun _ => False)) (F0 m 5 ls []) := by
    intro nn_1
    induction nn_1 with
    | zero => intro i z1_0 z1_1 hi ez1_0 ez1_1 ls hl hn; exact absurd hn (Nat.not_lt_zero _)
    | succ nn_1 ih_1 =>
      intro i z1_0 z1_1 hi ez1_0 ez1_1 ls hl hn_1
      subst ez1_0
      subst ez1_1
      refine lv_iload hx hb dX1_doubleArea_5 (lv_at hl 0 rfl) ?_
      refine lv_aload_n hx hb dX1_doubleArea_7 rfl (lv_at hl 2 rfl) ?_
      refine va_get (D := G) (ci := 1) (v := .ref qP1) (C := RX1) (T := TX1) (N := 6) hx hb hts (fun _ h => List.mem_cons_of_mem _ (List.mem_append_left _ (List.mem_append_right _ h))) hown hK.1 hP 9 rfl rfl 1 (by decide) (hts (.fieldLink RX1 9 "TailorHouse$Pattern" "sizes" "[I") (List.mem_of_getElem? (i := 1) rfl)) (fun _ h9 => h9) rfl dX1_doubleArea_8 ?_
      refine lv_iload_n hx hb dX1_doubleArea_11 rfl (lv_at hl 3 rfl) ?_
      refine kx_ialdN hx hb hK.1 hP 10 rfl rfl kk (by omega) (by decide) dX1_doubleArea_12 ?_
      refine kx_geN hx hb i (sn kk) (by have := hs8 kk hk; omega) (by have := hs8 kk hk; omega) (tgt := 90) dX1_doubleArea_13 (by decide) (fun c_2 => ?_) (fun c_2 => ?_)
      · skip
        have hE : i = sn kk := by omega
        subst hE
        refine lv_lload_n hx hb dX1_doubleArea_90 rfl (lv_at hl 1 rfl) ?_
        refine va_mabs_long hx hb (by rw [hml]; exact hl.1.symm) hown (hts (.methodLink RX1 61 Lib.MathLoose.abs_long.x) (List.mem_of_getElem? (i := 3) rfl)) (hts (.static Lib.MathLoose.abs_long.x) (List.mem_of_getElem? (i := 4) rfl)) (hts (.initialized "java/lang/Math") (List.mem_of_getElem? (i := 5) rfl)) (hts (.code Lib.MathLoose.abs_long.x Lib.MathLoose.abs_long.code 2 (some .long)) (List.mem_of_getElem? (i := 6) rfl)) (Nat.le_of_ble_eq_true rfl) (Nat.le_of_ble_eq_true rfl) (Nat.zero_le _) (Nat.zero_le _) dX1_doubleArea_91 ?_
        exact kx_lret hx hb hr (rfl) dX1_doubleArea_94 hlocks
      · skip
        refine lv_aload_n hx hb dX1_doubleArea_16 rfl (lv_at hl 2 rfl) ?_
        refine lv_iload_n hx hb dX1_doubleArea_17 rfl (lv_at hl 3 rfl) ?_
        refine lv_iload hx hb dX1_doubleArea_18 (lv_at hl 0 rfl) ?_
        refine kx_ri (va_runV (As := [.int (nI kk), .int (nI i)]) (rest := []) ⟨hx, hb, hml, hown, hts⟩ (c_X1_corner l G cI cZ qP qD qP1 qP2 qP3 sn cor jn pcs sms kk i (by omega) (Nat.lt_of_lt_of_le (by assumption) (hs8 kk hk))) (cwV 2 hts gX1_doubleArea_X1_corner rfl rfl rfl (by decide +kernel) ⟨(Nat.le_of_ble_eq_true rfl), (Nat.le_of_ble_eq_true rfl)⟩) (kx_preR hK (kx_sub 9 4 hP rfl) 0 rfl rfl) rfl rfl hl.1 rfl (lv_room (Nat.le_of_ble_eq_true rfl)) dX1_doubleArea_20 ⟨Nat.zero_le _, Nat.zero_le _⟩) ?_
        refine lv_istore (lv' := [(5, .int (cor (kk * 8 + i))), (4, .int (nI i)), (2, .long (kAr xx yy cor sn kk i)), (0, .ref qP), (1, .int (nI kk))]) hx hb dX1_doubleArea_23 hl (by decide) rfl (fun ls hl => ?_)
        refine lv_aload_n hx hb dX1_doubleArea_25 rfl (lv_at hl 3 rfl) ?_
        refine lv_iload_n hx hb dX1_doubleArea_26 rfl (lv_at hl 4 rfl) ?_
        refine lv_iload hx hb dX1_doubleArea_27 (lv_at hl 1 rfl) ?_
        refine kx_ri (va_runV (As := [.int (nI kk), .int (nI i)]) (rest := []) ⟨hx, hb, hml, hown, hts⟩ (c_X1_cornerAfter l G cI cZ qP qD qP1 qP2 qP3 sn cor jn pcs sms kk i (by omega) (hs8 kk hk) (Nat.lt_of_lt_of_le (by assumption) (hs8 kk hk))) (cwV 2 hts gX1_doubleArea_X1_cornerAfter rfl rfl rfl (by decide +kernel) ⟨(Nat.le_of_ble_eq_true rfl), (Nat.le_of_ble_eq_true rfl)⟩) (kx_preR hK (kx_sub 9 4 hP rfl) 0 rfl rfl) rfl rfl hl.1 rfl (lv_room (Nat.le_of_ble_eq_true rfl)) dX1_doubleArea_29 ⟨Nat.zero_le _, Nat.zero_le _⟩) ?_
        refine lv_istore (lv' := [(6, .int (cor (kk * 8 + kNx (sn kk) i))), (5, .int (cor (kk * 8 + i))), (4, .int (nI i)), (2, .long (kAr xx yy cor sn kk i)), (0, .ref qP), (1, .int (nI kk))]) hx hb dX1_doubleArea_32 hl (by decide) rfl (fun ls hl => ?_)
        refine lv_lload_n hx hb dX1_doubleArea_34 rfl (lv_at hl 3 rfl) ?_
        refine lv_aload_n hx hb dX1_doubleArea_35 rfl (lv_at hl 4 rfl) ?_
        refine va_get (D := G) (ci := 1) (v := .ref qD) (C := RX1) (T := TX1) (N := 6) hx hb hts (fun _ h => List.mem_cons_of_mem _ (List.mem_append_left _ (List.mem_append_right _ h))) hown hK.1 hP 9 rfl rfl 0 (by decide) (hts (.fieldLink RX1 28 "TailorHouse$Pattern" "draft" "LTailorHouse$Draft;") (List.mem_of_getElem? (i := 2) rfl)) (fun _ h9 => h9) rfl dX1_doubleArea_36 ?_
        refine va_getN (D := G) (ci := 0) (v := .ref qD7) (C := RX0) (T := TX0) (N := 10) hx hb hts (fun _ h => List.mem_cons_of_mem _ (List.mem_append_right _ h)) hown hK.1 hP 0 rfl rfl 7 (by decide) (va_Nw.use rfl (hK.2 _ (List.mem_of_getElem? (i := 1) rfl))) (fun _ h9 => h9) rfl dX1_doubleArea_39 ?_
        refine lv_iload hx hb dX1_doubleArea_42 (lv_at hl 1 rfl) ?_
        refine va_iald hx hb hK.1 hP 7 0 rfl rfl (hco kk i hk (by omega)) dX1_doubleArea_44 ?_
        refine lv_i2l hx hb dX1_doubleArea_45 rfl ?_
        refine lv_aload_n hx hb dX1_doubleArea_46 rfl (lv_at hl 4 rfl) ?_
        refine va_get (D := G) (ci := 1) (v := .ref qD) (C := RX1) (T := TX1) (N := 6) hx hb hts (fun _ h => List.mem_cons_of_mem _ (List.mem_append_left _ (List.mem_append_right _ h))) hown hK.1 hP 9 rfl rfl 0 (by decide) (hts (.fieldLink RX1 28 "TailorHouse$Pattern" "draft" "LTailorHouse$Draft;") (List.mem_of_getElem? (i := 2) rfl)) (fun _ h9 => h9) rfl dX1_doubleArea_47 ?_
        refine va_getN (D := G) (ci := 0) (v := .ref qD8) (C := RX0) (T := TX0) (N := 10) hx hb hts (fun _ h => List.mem_cons_of_mem _ (List.mem_append_right _ h)) hown hK.1 hP 0 rfl rfl 8 (by decide) (va_Nw.use rfl (hK.2 _ (List.mem_of_getElem? (i := 3) rfl))) (fun _ h9 => h9) rfl dX1_doubleArea_50 ?_
        refine lv_iload hx hb dX1_doubleArea_53 (lv_at hl 0 rfl) ?_
        refine va_iald hx hb hK.1 hP 8 0 rfl rfl (hco kk (kNx (sn kk) i) hk (kNx_lt (by omega))) dX1_doubleArea_55 ?_
        refine lv_i2l hx hb dX1_doubleArea_56 rfl ?_
        refine lv_lmul hx hb dX1_doubleArea_57 ?_
        refine lv_aload_n hx hb dX1_doubleArea_58 rfl (lv_at hl 4 rfl) ?_
        refine va_get (D := G) (ci := 1) (v := .ref qD) (C := RX1) (T := TX1) (N := 6) hx hb hts (fun _ h => List.mem_cons_of_mem _ (List.mem_append_left _ (List.mem_append_right _ h))) hown hK.1 hP 9 rfl rfl 0 (by decide) (hts (.fieldLink RX1 28 "TailorHouse$Pattern" "draft" "LTailorHouse$Draft;") (List.mem_of_getElem? (i := 2) rfl)) (fun _ h9 => h9) rfl dX1_doubleArea_59 ?_
        refine va_getN (D := G) (ci := 0) (v := .ref qD7) (C := RX0) (T := TX0) (N := 10) hx hb hts (fun _ h => List.mem_cons_of_mem _ (List.mem_append_right _ h)) hown hK.1 hP 0 rfl rfl 7 (by decide) (va_Nw.use rfl (hK.2 _ (List.mem_of_getElem? (i := 1) rfl))) (fun _ h9 => h9) rfl dX1_doubleArea_62 ?_
        refine lv_iload hx hb dX1_doubleArea_65 (lv_at hl 0 rfl) ?_
        refine va_iald hx hb hK.1 hP 7 0 rfl rfl (hco kk (kNx (sn kk) i) hk (kNx_lt (by omega))) dX1_doubleArea_67 ?_
        refine lv_i2l hx hb dX1_doubleArea_68 rfl ?_
        refine lv_aload_n hx hb dX1_doubleArea_69 rfl (lv_at hl 4 rfl) ?_
        refine va_get (D := G) (ci := 1) (v := .ref qD) (C := RX1) (T := TX1) (N := 6) hx hb hts (fun _ h => List.mem_cons_of_mem _ (List.mem_append_left _ (List.mem_append_right _ h))) hown hK.1 hP 9 rfl rfl 0 (by decide) (hts (.fieldLink RX1 28 "TailorHouse$Pattern" "draft" "LTailorHouse$Draft;") (List.mem_of_getElem? (i := 2) rfl)) (fun _ h9 => h9) rfl dX1_doubleArea_70 ?_
        refine va_getN (D := G) (ci := 0) (v := .ref qD8) (C := RX0) (T := TX0) (N := 10) hx hb hts (fun _ h => List.mem_cons_of_mem _ (List.mem_append_right _ h)) hown hK.1 hP 0 rfl rfl 8 (by decide) (va_Nw.use rfl (hK.2 _ (List.mem_of_getElem? (i := 3) rfl))) (fun _ h9 => h9) rfl dX1_doubleArea_73 ?_
        refine lv_iload hx hb dX1_doubleArea_76 (lv_at hl 1 rfl) ?_
        refine va_iald hx hb hK.1 hP 8 0 rfl rfl (hco kk i hk (by omega)) dX1_doubleArea_78 ?_
        refine lv_i2l hx hb dX1_doubleArea_79 rfl ?_
        refine lv_lmul hx hb dX1_doubleArea_80 ?_
        refine lv_lsub hx hb dX1_doubleArea_81 ?_
        refine lv_ladd hx hb dX1_doubleArea_82 ?_
        refine lv_lstore_n (lv' := [(2, .long ((kAr xx yy cor sn kk i) + ((((xx (cor (kk * 8 + i)).toNatClampNeg).toInt64) * ((yy (cor (kk * 8 + kNx (sn kk) i)).toNatClampNeg).toInt64)) - (((xx (cor (kk * 8 + kNx (sn kk) i)).toNatClampNeg).toInt64) * ((yy (cor (kk * 8 + i)).toNatClampNeg).toInt64))))), (6, .int (cor (kk * 8 + kNx (sn kk) i))), (5, .int (cor (kk * 8 + i))), (4, .int (nI i)), (0, .ref qP), (1, .int (nI kk))]) hx hb dX1_doubleArea_83 rfl hl (by decide) rfl (fun ls hl => ?_)
        refine lv_iinc (v := nI (i + 1)) (lv' := [(4, .int (nI (i + 1))), (2, .long ((kAr xx yy cor sn kk i) + ((((xx (cor (kk * 8 + i)).toNatClampNeg).toInt64) * ((yy (cor (kk * 8 + kNx (sn kk) i)).toNatClampNeg).toInt64)) - (((xx (cor (kk * 8 + kNx (sn kk) i)).toNatClampNeg).toInt64) * ((yy (cor (kk * 8 + i)).toNatClampNeg).toInt64))))), (6, .int (cor (kk * 8 + kNx (sn kk) i))), (5, .int (cor (kk * 8 + i))), (0, .ref qP), (1, .int (nI kk))]) hx hb dX1_doubleArea_84 hl (k := 3) rfl (nI_1 i) (by decide) rfl (fun ls hl => ?_)
        refine lv_goto (tgt := 5) hx hb dX1_doubleArea_87 (by decide) ?_
        exact ih_1 (i + 1) ((kAr xx yy cor sn kk i) + ((((xx (cor (kk * 8 + i)).toNatClampNeg).toInt64) * ((yy (cor (kk * 8 + kNx (sn kk) i)).toNatClampNeg).toInt64)) - (((xx (cor (kk * 8 + kNx (sn kk) i)).toNatClampNeg).toInt64) * ((yy (cor (kk * 8 + i)).toNatClampNeg).toInt64)))) (i + 1) (by omega) (rfl) rfl ls (lv_sub hl [0, 1, 4, 5] rfl) (by omega)
  exact lab_5_1 ((sn kk - 0) + 1) 0 0 0 (by omega) (rfl) rfl ls (lv_sub hl [0, 1, 2, 3] rfl) (Nat.lt_succ_self _)
abbrev rm_X1_firstGap : Room := { frames := 3, cells := 0, slots := 0, locals := 72 }
set_option maxHeartbeats 4000000 in
set_option maxRecDepth 100000 in
theorem c_X1_firstGap (l : Launch) (G : va_G) (cI cZ : ClassId) (qP : Nat) (qD : Nat) (qP1 : Nat) (qP2 : Nat) (qP3 : Nat) (sn : Nat → Nat) (cor : Nat → Int32) (jn : Nat → Nat) (pcs : Nat) (sms : Nat) (hT : Nat) (qD1 : Nat) (qD2 : Nat) (qD3 : Nat) (qD4 : Nat) (qD5 : Nat) (qD6 : Nat) (qD7 : Nat) (qD8 : Nat) (kd : Nat → Int32) (ba : Nat → Int32) (ot : Nat → Int32) (aa : Nat → Int32) (bb : Nat → Int32) (bm : Nat → Int32) (xx : Nat → Int32) (yy : Nat → Int32) (pts : Nat) (al : Int32) (hpc : pcs ≤ 7) (hs8 : ∀ k, k < pcs → sn k ≤ 8) (hco : ∀ k i, k < pcs → i < sn k → vp_in (cor (k * 8 + i)) 20) (hsm : sms ≤ 10) (hjo : ∀ k, k < sms → (jn (k * 4) < pcs ∧ jn (k * 4 + 1) < sn (jn (k * 4))) ∧ jn (k * 4 + 2) < pcs ∧ jn (k * 4 + 3) < sn (jn (k * 4 + 2))) : Met l yX1_firstGap wsX1_firstGap rm_X1_firstGap (kx_Pr G cI cZ [(qD, .inr (0, [.ref hT, .ref qD1, .ref qD2, .ref qD3, .ref qD4, .ref qD5, .ref qD6, .ref qD7, .ref qD8, .int (nI pts)])), (qD1, .inl (cI, 20, .inl kd)), (qD2, .inl (cI, 20, .inl ba)), (qD3, .inl (cI, 20, .inl ot)), (qD4, .inl (cI, 20, .inl aa)), (qD5, .inl (cI, 20, .inl bb)), (qD6, .inl (cI, 6, .inl bm)), (qD7, .inl (cI, 20, .inl xx)), (qD8, .inl (cI, 20, .inl yy)), (qP, .inr (1, [.ref qD, .ref qP1, .ref qP2, .ref qP3, .int (nI pcs), .int (nI sms)])), (qP1, .inl (cI, 7, .inl (fun k => nI (sn k)))), (qP2, .inl (cI, 56, .inl cor)), (qP3, .inl (cI, 40, .inl (fun k => nI (jn k))))] [.ref qP, .int al]) (QcRead (kGap xx yy cor sn jn al sms)) 0 0 (fun _ => False) := by
  refine Met.ofW (cc := cX1_firstGap) (maxL := 5) (ret := (some .int)) (by decide) rfl ?_
  intro p e s m args below meth c s₁ B hml hv
  obtain ⟨rfl, hP, hK⟩ := hv
  have hx := B.exec
  have hb := B.bytes
  have hr := B.returns
  have hts := atoms_spec (ws := wsX1_firstGap) B.pre
  have hown : s.vm.findClass RX1 = some m.cls := findClass_of_methodNamed B.named
  have hlocks := B.notSynchronized
  have hl := lv_entry ([.ref qP, .int al]) (n := 5) (Nat.le_of_ble_eq_true rfl)
  rw [lg_entry_eq]
  generalize (lg_sl ([.ref qP, .int al]) ++ List.replicate (5 - (lg_sl ([.ref qP, .int al])).length) Slot.unset).toArray = ls at hl ⊢
  have hl : lv_has ls 5 [(0, .ref qP), (1, .int al)] := hl
  refine lv_iconst (v := 0) hx hb dX1_firstGap_0 (by decide) ?_
  refine lv_istore_n (lv' := [(2, .int 0), (0, .ref qP), (1, .int al)]) hx hb dX1_firstGap_1 rfl hl (by decide) rfl (fun ls hl => ?_)
  have lab_2_1 : ∀ (nn_1 : Nat) (i : Nat) (z1_0 : Nat) (hi : i ≤ sms) (hg : kGap xx yy cor sn jn al i = -1) (ez1_0 : i = z1_0) (ls : Array Slot) (hl : lv_has ls 5 [(2, .int (nI z1_0)), (0, .ref qP), (1, .int al)]), (sms - i) < nn_1 → W p l e (headSpec wsX1_firstGap rm_X1_firstGap).room s m ([.ref qP, .int al] : List Value).toArray below meth c s.heap [] 0 0 (MQ below (QcRead (kGap xx yy cor sn jn al sms)) ([.ref qP, .int al] : List Value).toArray s 0 0 (fun _ => False)) (F0 m 2 ls []) := by
    intro nn_1
    induction nn_1 with
    | zero => intro i z1_0 hi hg ez1_0 ls hl hn; exact absurd hn (Nat.not_lt_zero _)
    | succ nn_1 ih_1 =>
      intro i z1_0 hi hg ez1_0 ls hl hn_1
      subst ez1_0
      refine lv_iload_n hx hb dX1_firstGap_2 rfl (lv_at hl 0 rfl) ?_
      refine lv_aload_n hx hb dX1_firstGap_3 rfl (lv_at hl 1 rfl) ?_
      refine va_get (D := G) (ci := 1) (v := .int (nI sms)) (C := RX1) (T := TX1) (N := 6) hx hb hts (fun _ h => List.mem_cons_of_mem _ (List.mem_append_left _ (List.mem_append_right _ h))) hown hK.1 hP 9 rfl rfl 5 (by decide) (hts (.fieldLink RX1 25 "TailorHouse$Pattern" "seams" "I") (List.mem_of_getElem? (i := 1) rfl)) (fun _ h9 => h9) rfl dX1_firstGap_4 ?_
      refine kx_geN hx hb i sms (by omega) (by omega) (tgt := 78) dX1_firstGap_7 (by decide) (fun c_2 => ?_) (fun c_2 => ?_)
      · skip
        have hE : sms = i := by omega
        subst hE
        refine lv_iconst (v := (-1)) hx hb dX1_firstGap_78 (by decide) ?_
        exact kx_iret hx hb hr (v := (-1)) (hg.symm) dX1_firstGap_79 hlocks
      · skip
        refine lv_aload_n hx hb dX1_firstGap_10 rfl (lv_at hl 1 rfl) ?_
        refine lv_aload_n hx hb dX1_firstGap_11 rfl (lv_at hl 1 rfl) ?_
        refine va_get (D := G) (ci := 1) (v := .ref qP3) (C := RX1) (T := TX1) (N := 6) hx hb hts (fun _ h => List.mem_cons_of_mem _ (List.mem_append_left _ (List.mem_append_right _ h))) hown hK.1 hP 9 rfl rfl 3 (by decide) (hts (.fieldLink RX1 18 "TailorHouse$Pattern" "joins" "[I") (List.mem_of_getElem? (i := 2) rfl)) (fun _ h9 => h9) rfl dX1_firstGap_12 ?_
        refine lv_iload_n hx hb dX1_firstGap_15 rfl (lv_at hl 0 rfl) ?_
        refine lv_iconst (v := 4) hx hb dX1_firstGap_16 (by decide) ?_
        refine kx_imulN hx hb i 4 dX1_firstGap_17 ?_
        refine kx_ialdN hx hb hK.1 hP 12 rfl rfl (i * 4) (by omega) (by decide) dX1_firstGap_18 ?_
        refine lv_aload_n hx hb dX1_firstGap_19 rfl (lv_at hl 1 rfl) ?_
        refine va_get (D := G) (ci := 1) (v := .ref qP3) (C := RX1) (T := TX1) (N := 6) hx hb hts (fun _ h => List.mem_cons_of_mem _ (List.mem_append_left _ (List.mem_append_right _ h))) hown hK.1 hP 9 rfl rfl 3 (by decide) (hts (.fieldLink RX1 18 "TailorHouse$Pattern" "joins" "[I") (List.mem_of_getElem? (i := 2) rfl)) (fun _ h9 => h9) rfl dX1_firstGap_20 ?_
        refine lv_iload_n hx hb dX1_firstGap_23 rfl (lv_at hl 0 rfl) ?_
        refine lv_iconst (v := 4) hx hb dX1_firstGap_24 (by decide) ?_
        refine kx_imulN hx hb i 4 dX1_firstGap_25 ?_
        refine lv_iconst (v := 1) hx hb dX1_firstGap_26 (by decide) ?_
        refine kx_iaddN hx hb (i * 4) 1 dX1_firstGap_27 ?_
        refine kx_ialdN hx hb hK.1 hP 12 rfl rfl ((i * 4) + 1) (by omega) (by decide) dX1_firstGap_28 ?_
        refine kx_ri (va_runV (As := [.int (nI (jn (i * 4))), .int (nI (jn ((i * 4) + 1)))]) (rest := []) ⟨hx, hb, hml, hown, hts⟩ (c_X1_sideLength l G cI cZ qP qD qP1 qP2 qP3 sn cor jn pcs sms hT qD1 qD2 qD3 qD4 qD5 qD6 qD7 qD8 kd ba ot aa bb bm xx yy pts (jn (i * 4)) (jn ((i * 4) + 1)) (by first | assumption | omega) (by first | assumption | omega) (by first | assumption | omega) ((hjo i (by omega)).1.1) ((hjo i (by omega)).1.2)) (cwV 2 hts gX1_firstGap_X1_sideLength rfl rfl rfl (by decide +kernel) ⟨(Nat.le_of_ble_eq_true rfl), (Nat.le_of_ble_eq_true rfl)⟩) (kx_preR hK (kx_sub 0 13 hP rfl) 9 rfl rfl) rfl rfl hl.1 rfl (lv_room (Nat.le_of_ble_eq_true rfl)) dX1_firstGap_29 ⟨Nat.zero_le _, Nat.zero_le _⟩) ?_
        refine lv_istore_n (lv' := [(3, .int (kLen xx yy cor sn (jn (i * 4)) (jn ((i * 4) + 1)))), (2, .int (nI i)), (0, .ref qP), (1, .int al)]) hx hb dX1_firstGap_32 rfl hl (by decide) rfl (fun ls hl => ?_)
        refine lv_aload_n hx hb dX1_firstGap_33 rfl (lv_at hl 2 rfl) ?_
        refine lv_aload_n hx hb dX1_firstGap_34 rfl (lv_at hl 2 rfl) ?_
        refine va_get (D := G) (ci := 1) (v := .ref qP3) (C := RX1) (T := TX1) (N := 6) hx hb hts (fun _ h => List.mem_cons_of_mem _ (List.mem_append_left _ (List.mem_append_right _ h))) hown hK.1 hP 9 rfl rfl 3 (by decide) (hts (.fieldLink RX1 18 "TailorHouse$Pattern" "joins" "[I") (List.mem_of_getElem? (i := 2) rfl)) (fun _ h9 => h9) rfl dX1_firstGap_35 ?_
        refine lv_iload_n hx hb dX1_firstGap_38 rfl (lv_at hl 1 rfl) ?_
        refine lv_iconst (v := 4) hx hb dX1_firstGap_39 (by decide) ?_
        refine kx_imulN hx hb i 4 dX1_firstGap_40 ?_
        refine lv_iconst (v := 2) hx hb dX1_firstGap_41 (by decide) ?_
        refine kx_iaddN hx hb (i * 4) 2 dX1_firstGap_42 ?_
        refine kx_ialdN hx hb hK.1 hP 12 rfl rfl ((i * 4) + 2) (by omega) (by decide) dX1_firstGap_43 ?_
        refine lv_aload_n hx hb dX1_firstGap_44 rfl (lv_at hl 2 rfl) ?_
        refine va_get (D := G) (ci := 1) (v := .ref qP3) (C := RX1) (T := TX1) (N := 6) hx hb hts (fun _ h => List.mem_cons_of_mem _ (List.mem_append_left _ (List.mem_append_right _ h))) hown hK.1 hP 9 rfl rfl 3 (by decide) (hts (.fieldLink RX1 18 "TailorHouse$Pattern" "joins" "[I") (List.mem_of_getElem? (i := 2) rfl)) (fun _ h9 => h9) rfl dX1_firstGap_45 ?_
        refine lv_iload_n hx hb dX1_firstGap_48 rfl (lv_at hl 1 rfl) ?_
        refine lv_iconst (v := 4) hx hb dX1_firstGap_49 (by decide) ?_
        refine kx_imulN hx hb i 4 dX1_firstGap_50 ?_
        refine lv_iconst (v := 3) hx hb dX1_firstGap_51 (by decide) ?_
        refine kx_iaddN hx hb (i * 4) 3 dX1_firstGap_52 ?_
        refine kx_ialdN hx hb hK.1 hP 12 rfl rfl ((i * 4) + 3) (by omega) (by decide) dX1_firstGap_53 ?_
        refine kx_ri (va_runV (As := [.int (nI (jn ((i * 4) + 2))), .int (nI (jn ((i * 4) + 3)))]) (rest := []) ⟨hx, hb, hml, hown, hts⟩ (c_X1_sideLength l G cI cZ qP qD qP1 qP2 qP3 sn cor jn pcs sms hT qD1 qD2 qD3 qD4 qD5 qD6 qD7 qD8 kd ba ot aa bb bm xx yy pts (jn ((i * 4) + 2)) (jn ((i * 4) + 3)) (by first | assumption | omega) (by first | assumption | omega) (by first | assumption | omega) ((hjo i (by omega)).2.1) ((hjo i (by omega)).2.2)) (cwV 2 hts gX1_firstGap_X1_sideLength rfl rfl rfl (by decide +kernel) ⟨(Nat.le_of_ble_eq_true rfl), (Nat.le_of_ble_eq_true rfl)⟩) (kx_preR hK (kx_sub 0 13 hP rfl) 9 rfl rfl) rfl rfl hl.1 rfl (lv_room (Nat.le_of_ble_eq_true rfl)) dX1_firstGap_54 ⟨Nat.zero_le _, Nat.zero_le _⟩) ?_
        refine lv_istore (lv' := [(4, .int (kLen xx yy cor sn (jn ((i * 4) + 2)) (jn ((i * 4) + 3)))), (3, .int (kLen xx yy cor sn (jn (i * 4)) (jn ((i * 4) + 1)))), (2, .int (nI i)), (0, .ref qP), (1, .int al)]) hx hb dX1_firstGap_57 hl (by decide) rfl (fun ls hl => ?_)
        refine lv_iload_n hx hb dX1_firstGap_59 rfl (lv_at hl 1 rfl) ?_
        refine lv_iload hx hb dX1_firstGap_60 (lv_at hl 0 rfl) ?_
        refine lv_isub hx hb dX1_firstGap_62 ?_
        refine va_mabs hx hb (by rw [hml]; exact hl.1.symm) hown (hts (.methodLink RX1 70 Lib.Math.abs.name) (List.mem_of_getElem? (i := 3) rfl)) (hts (.static Lib.Math.abs.name) (List.mem_of_getElem? (i := 4) rfl)) (hts (.initialized "java/lang/Math") (List.mem_of_getElem? (i := 5) rfl)) (hts (.code Lib.Math.abs.name Lib.Math.abs.code 1 (some .int)) (List.mem_of_getElem? (i := 6) rfl)) (Nat.le_of_ble_eq_true rfl) (Nat.le_of_ble_eq_true rfl) (Nat.zero_le _) (Nat.zero_le _) dX1_firstGap_63 ?_
        refine lv_iload_n hx hb dX1_firstGap_66 rfl (lv_at hl 4 rfl) ?_
        refine lv_icmp_le (tgt := 72) hx hb dX1_firstGap_67 (by decide) (fun c_3 => ?_) (fun c_3 => ?_)
        · skip
          refine lv_iinc (v := nI (i + 1)) (lv' := [(2, .int (nI (i + 1))), (4, .int (kLen xx yy cor sn (jn ((i * 4) + 2)) (jn ((i * 4) + 3)))), (3, .int (kLen xx yy cor sn (jn (i * 4)) (jn ((i * 4) + 1)))), (0, .ref qP), (1, .int al)]) hx hb dX1_firstGap_72 hl (k := 2) rfl (nI_1 i) (by decide) rfl (fun ls hl => ?_)
          refine lv_goto (tgt := 2) hx hb dX1_firstGap_75 (by decide) ?_
          exact ih_1 (i + 1) (i + 1) (by omega) (kGap_s hg (Int32.not_lt.mpr c_3)) rfl ls (lv_sub hl [0, 3, 4] rfl) (by omega)
        · skip
          refine lv_iload_n hx hb dX1_firstGap_70 rfl (lv_at hl 2 rfl) ?_
          exact kx_iret hx hb hr (v := (nI i)) ((kGap_f hg (Int32.not_le.mp c_3) sms (by omega) (by omega)).symm) dX1_firstGap_71 hlocks
  exact lab_2_1 ((sms - 0) + 1) 0 0 (by omega) (rfl) rfl ls (lv_sub hl [0, 1, 2] rfl) (Nat.lt_succ_self _)
abbrev rm_X1_piecesWith : Room := { frames := 1, cells := 0, slots := 0, locals := 22 }
set_option maxHeartbeats 4000000 in
set_option maxRecDepth 100000 in
theorem c_X1_piecesWith (l : Launch) (G : va_G) (cI cZ : ClassId) (qP : Nat) (qD : Nat) (qP1 : Nat) (qP2 : Nat) (qP3 : Nat) (sn : Nat → Nat) (cor : Nat → Int32) (jn : Nat → Nat) (pcs : Nat) (sms : Nat) (pb : Int32) (hpc : pcs ≤ 7) (hs8 : ∀ k, k < pcs → sn k ≤ 8) : Met l yX1_piecesWith wsX1_piecesWith rm_X1_piecesWith (kx_Pr G cI cZ [(qP, .inr (1, [.ref qD, .ref qP1, .ref qP2, .ref qP3, .int (nI pcs), .int (nI sms)])), (qP1, .inl (cI, 7, .inl (fun k => nI (sn k)))), (qP2, .inl (cI, 56, .inl cor)), (qP3, .inl (cI, 40, .inl (fun k => nI (jn k))))] [.ref qP, .int pb]) (QcRead (kPW cor sn pb pcs)) 0 0 (fun _ => False) := by
  refine Met.ofW (cc := cX1_piecesWith) (maxL := 5) (ret := (some .int)) (by decide) rfl ?_
  intro p e s m args below meth c s₁ B hml hv
  obtain ⟨rfl, hP, hK⟩ := hv
  have hx := B.exec
  have hb := B.bytes
  have hr := B.returns
  have hts := atoms_spec (ws := wsX1_piecesWith) B.pre
  have hown : s.vm.findClass RX1 = some m.cls := findClass_of_methodNamed B.named
  have hlocks := B.notSynchronized
  have hl := lv_entry ([.ref qP, .int pb]) (n := 5) (Nat.le_of_ble_eq_true rfl)
  rw [lg_entry_eq]
  generalize (lg_sl ([.ref qP, .int pb]) ++ List.replicate (5 - (lg_sl ([.ref qP, .int pb])).length) Slot.unset).toArray = ls at hl ⊢
  have hl : lv_has ls 5 [(0, .ref qP), (1, .int pb)] := hl
  refine lv_iconst (v := 0) hx hb dX1_piecesWith_0 (by decide) ?_
  refine lv_istore_n (lv' := [(2, .int 0), (0, .ref qP), (1, .int pb)]) hx hb dX1_piecesWith_1 rfl hl (by decide) rfl (fun ls hl => ?_)
  refine lv_iconst (v := 0) hx hb dX1_piecesWith_2 (by decide) ?_
  refine lv_istore_n (lv' := [(3, .int 0), (2, .int 0), (0, .ref qP), (1, .int pb)]) hx hb dX1_piecesWith_3 rfl hl (by decide) rfl (fun ls hl => ?_)
  have lab_4_1 : ∀ (nn_1 : Nat) (kk : Nat) (z1_0 : Int32) (z1_1 : Nat) (hk : kk ≤ pcs) (ez1_0 : (kPW cor sn pb kk) = z1_0) (ez1_1 : kk = z1_1) (ls : Array Slot) (hl : lv_has ls 5 [(3, .int (nI z1_1)), (2, .int z1_0), (0, .ref qP), (1, .int pb)]), (pcs - kk) < nn_1 → W p l e (headSpec wsX1_piecesWith rm_X1_piecesWith).room s m ([.ref qP, .int pb] : List Value).toArray below meth c s.heap [] 0 0 (MQ below (QcRead (kPW cor sn pb pcs)) ([.ref qP, .int pb] : List Value).toArray s 0 0 (fun _ => False)) (F0 m 4 ls []) := by
    intro nn_1
    induction nn_1 with
    | zero => intro kk z1_0 z1_1 hk ez1_0 ez1_1 ls hl hn; exact absurd hn (Nat.not_lt_zero _)
    | succ nn_1 ih_1 =>
      intro kk z1_0 z1_1 hk ez1_0 ez1_1 ls hl hn_1
      subst ez1_0
      subst ez1_1
      refine lv_iload_n hx hb dX1_piecesWith_4 rfl (lv_at hl 0 rfl) ?_
      refine lv_aload_n hx hb dX1_piecesWith_5 rfl (lv_at hl 2 rfl) ?_
      refine va_get (D := G) (ci := 1) (v := .int (nI pcs)) (C := RX1) (T := TX1) (N := 6) hx hb hts (fun _ h => List.mem_cons_of_mem _ (List.mem_append_right _ h)) hown hK.1 hP 0 rfl rfl 4 (by decide) (hts (.fieldLink RX1 21 "TailorHouse$Pattern" "pieces" "I") (List.mem_of_getElem? (i := 1) rfl)) (fun _ h9 => h9) rfl dX1_piecesWith_6 ?_
      refine kx_geN hx hb kk pcs (by omega) (by omega) (tgt := 59) dX1_piecesWith_9 (by decide) (fun c_2 => ?_) (fun c_2 => ?_)
      · skip
        have hE : pcs = kk := by omega
        subst hE
        refine lv_iload_n hx hb dX1_piecesWith_59 rfl (lv_at hl 1 rfl) ?_
        exact kx_iret hx hb hr (v := (kPW cor sn pb pcs)) (rfl) dX1_piecesWith_60 hlocks
      · skip
        have hn8 := hs8 kk (by omega)
        refine lv_iconst (v := 0) hx hb dX1_piecesWith_12 (by decide) ?_
        refine lv_istore (lv' := [(4, .int 0), (3, .int (nI kk)), (2, .int (kPW cor sn pb kk)), (0, .ref qP), (1, .int pb)]) hx hb dX1_piecesWith_13 hl (by decide) rfl (fun ls hl => ?_)
        have lab_15_3 : ∀ (nn_3 : Nat) (i : Nat) (z3_0 : Int32) (z3_1 : Nat) (hi : i ≤ sn kk) (ez3_0 : (kPWi cor pb kk i (kPW cor sn pb kk)) = z3_0) (ez3_1 : i = z3_1) (ls : Array Slot) (hl : lv_has ls 5 [(4, .int (nI z3_1)), (3, .int (nI kk)), (2, .int z3_0), (0, .ref qP), (1, .int pb)]), (sn kk - i) < nn_3 → W p l e (headSpec wsX1_piecesWith rm_X1_piecesWith).room s m ([.ref qP, .int pb] : List Value).toArray below meth c s.heap [] 0 0 (MQ below (QcRead (kPW cor sn pb pcs)) ([.ref qP, .int pb] : List Value).toArray s 0 0 (fun _ => False)) (F0 m 15 ls []) := by
          intro nn_3
          induction nn_3 with
          | zero => intro i z3_0 z3_1 hi ez3_0 ez3_1 ls hl hn; exact absurd hn (Nat.not_lt_zero _)
          | succ nn_3 ih_3 =>
            intro i z3_0 z3_1 hi ez3_0 ez3_1 ls hl hn_3
            subst ez3_0
            subst ez3_1
            refine lv_iload hx hb dX1_piecesWith_15 (lv_at hl 0 rfl) ?_
            refine lv_aload_n hx hb dX1_piecesWith_17 rfl (lv_at hl 3 rfl) ?_
            refine va_get (D := G) (ci := 1) (v := .ref qP1) (C := RX1) (T := TX1) (N := 6) hx hb hts (fun _ h => List.mem_cons_of_mem _ (List.mem_append_right _ h)) hown hK.1 hP 0 rfl rfl 1 (by decide) (hts (.fieldLink RX1 9 "TailorHouse$Pattern" "sizes" "[I") (List.mem_of_getElem? (i := 2) rfl)) (fun _ h9 => h9) rfl dX1_piecesWith_18 ?_
            refine lv_iload_n hx hb dX1_piecesWith_21 rfl (lv_at hl 1 rfl) ?_
            refine kx_ialdN hx hb hK.1 hP 1 rfl rfl kk (by omega) (by decide) dX1_piecesWith_22 ?_
            refine kx_geN hx hb i (sn kk) (by omega) (by omega) (tgt := 53) dX1_piecesWith_23 (by decide) (fun c_4 => ?_) (fun c_4 => ?_)
            · skip
              have hE : i = sn kk := by omega
              subst hE
              refine lv_iinc (v := nI (kk + 1)) (lv' := [(3, .int (nI (kk + 1))), (4, .int (nI (sn kk))), (2, .int (kPWi cor pb kk (sn kk) (kPW cor sn pb kk))), (0, .ref qP), (1, .int pb)]) hx hb dX1_piecesWith_53 hl (k := 1) rfl (nI_1 kk) (by decide) rfl (fun ls hl => ?_)
              refine lv_goto (tgt := 4) hx hb dX1_piecesWith_56 (by decide) ?_
              exact ih_1 (kk + 1) (kPWi cor pb kk (sn kk) (kPW cor sn pb kk)) (kk + 1) (by omega) (rfl) rfl ls (lv_sub hl [0, 2, 3, 4] rfl) (by omega)
            · skip
              refine lv_iload_n hx hb dX1_piecesWith_26 rfl (lv_at hl 4 rfl) ?_
              refine lv_aload_n hx hb dX1_piecesWith_27 rfl (lv_at hl 3 rfl) ?_
              refine lv_iload_n hx hb dX1_piecesWith_28 rfl (lv_at hl 1 rfl) ?_
              refine lv_iload hx hb dX1_piecesWith_29 (lv_at hl 0 rfl) ?_
              refine kx_ri (va_runV (As := [.int (nI kk), .int (nI i)]) (rest := [.int pb]) ⟨hx, hb, hml, hown, hts⟩ (c_X1_corner l G cI cZ qP qD qP1 qP2 qP3 sn cor jn pcs sms kk i (by first | assumption | omega) (by first | assumption | omega)) (cwV 2 hts gX1_piecesWith_X1_corner rfl rfl rfl (by decide +kernel) ⟨(Nat.le_of_ble_eq_true rfl), (Nat.le_of_ble_eq_true rfl)⟩) (kx_preR hK (kx_sub 0 4 hP rfl) 0 rfl rfl) rfl rfl hl.1 rfl (lv_room (Nat.le_of_ble_eq_true rfl)) dX1_piecesWith_31 ⟨Nat.zero_le _, Nat.zero_le _⟩) ?_
              refine lv_ishr hx hb dX1_piecesWith_34 ?_
              refine lv_iconst (v := 1) hx hb dX1_piecesWith_35 (by decide) ?_
              refine lv_iand hx hb dX1_piecesWith_36 ?_
              refine lv_iconst (v := 1) hx hb dX1_piecesWith_37 (by decide) ?_
              refine lv_icmp_ne (tgt := 47) hx hb dX1_piecesWith_38 (by decide) (fun c_5 => ?_) (fun c_5 => ?_)
              · skip
                refine lv_iinc (v := nI (i + 1)) (lv' := [(4, .int (nI (i + 1))), (3, .int (nI kk)), (2, .int (kPWi cor pb kk i (kPW cor sn pb kk))), (0, .ref qP), (1, .int pb)]) hx hb dX1_piecesWith_47 hl (k := 0) rfl (nI_1 i) (by decide) rfl (fun ls hl => ?_)
                refine lv_goto (tgt := 15) hx hb dX1_piecesWith_50 (by decide) ?_
                exact ih_3 (i + 1) (kPWi cor pb kk i (kPW cor sn pb kk)) (i + 1) (by omega) (by simp [kPWi, c_4, Nat.not_le.mpr c_4, c_5]) rfl ls (lv_sub hl [0, 1, 2, 3, 4] rfl) (by omega)
              · skip
                refine lv_iload_n hx hb dX1_piecesWith_41 rfl (lv_at hl 2 rfl) ?_
                refine lv_iconst (v := 1) hx hb dX1_piecesWith_42 (by decide) ?_
                refine lv_iload_n hx hb dX1_piecesWith_43 rfl (lv_at hl 1 rfl) ?_
                refine lv_ishl hx hb dX1_piecesWith_44 ?_
                refine lv_ior hx hb dX1_piecesWith_45 ?_
                refine lv_istore_n (lv' := [(2, .int ((kPWi cor pb kk i (kPW cor sn pb kk)) ||| (1 <<< ((nI kk) &&& 31)))), (4, .int (nI i)), (3, .int (nI kk)), (0, .ref qP), (1, .int pb)]) hx hb dX1_piecesWith_46 rfl hl (by decide) rfl (fun ls hl => ?_)
                refine lv_iinc (v := nI (i + 1)) (lv' := [(4, .int (nI (i + 1))), (2, .int ((kPWi cor pb kk i (kPW cor sn pb kk)) ||| (1 <<< ((nI kk) &&& 31)))), (3, .int (nI kk)), (0, .ref qP), (1, .int pb)]) hx hb dX1_piecesWith_47 hl (k := 1) rfl (nI_1 i) (by decide) rfl (fun ls hl => ?_)
                refine lv_goto (tgt := 15) hx hb dX1_piecesWith_50 (by decide) ?_
                exact ih_3 (i + 1) ((kPWi cor pb kk i (kPW cor sn pb kk)) ||| (1 <<< ((nI kk) &&& 31))) (i + 1) (by omega) (by simp [kPWi, c_4, Nat.not_le.mpr c_4, c_5]) rfl ls (lv_sub hl [0, 2, 1, 3, 4] rfl) (by omega)
        exact lab_15_3 ((sn kk - 0) + 1) 0 (kPW cor sn pb kk) 0 (by omega) (rfl) rfl ls (lv_sub hl [0, 1, 2, 3, 4] rfl) (Nat.lt_succ_self _)
  exact lab_4_1 ((pcs - 0) + 1) 0 0 0 (by omega) (rfl) rfl ls (lv_sub hl [0, 1, 2, 3] rfl) (Nat.lt_succ_self _)
abbrev rm_X1_room : Room := { frames := 1, cells := 0, slots := 0, locals := 22 }
set_option maxHeartbeats 4000000 in
set_option maxRecDepth 100000 in
theorem c_X1_room (l : Launch) (G : va_G) (cI cZ : ClassId) (qP : Nat) (qD : Nat) (qP1 : Nat) (qP2 : Nat) (qP3 : Nat) (sn : Nat → Nat) (cor : Nat → Int32) (jn : Nat → Nat) (pcs : Nat) (sms : Nat) (pl : Nat → Int32) (kk : Nat) (qA : Nat) (hpc : pcs ≤ 7) (hs8 : ∀ k, k < pcs → sn k ≤ 8) (hco : ∀ k i, k < pcs → i < sn k → vp_in (cor (k * 8 + i)) 20) (hk : kk < pcs) (hs1 : 0 < sn kk) : Met l yX1_room wsX1_room rm_X1_room (kx_Pr G cI cZ [(qP, .inr (1, [.ref qD, .ref qP1, .ref qP2, .ref qP3, .int (nI pcs), .int (nI sms)])), (qP1, .inl (cI, 7, .inl (fun k => nI (sn k)))), (qP2, .inl (cI, 56, .inl cor)), (qP3, .inl (cI, 40, .inl (fun k => nI (jn k)))), (qA, .inl (cI, 20, .inl pl))] [.ref qP, .int (nI kk), .ref qA]) (QcRead (kRoom pl cor sn kk)) 0 0 (fun _ => False) := by
  refine Met.ofW (cc := cX1_room) (maxL := 6) (ret := (some .int)) (by decide) rfl ?_
  intro p e s m args below meth c s₁ B hml hv
  obtain ⟨rfl, hP, hK⟩ := hv
  have hx := B.exec
  have hb := B.bytes
  have hr := B.returns
  have hts := atoms_spec (ws := wsX1_room) B.pre
  have hown : s.vm.findClass RX1 = some m.cls := findClass_of_methodNamed B.named
  have hlocks := B.notSynchronized
  have hl := lv_entry ([.ref qP, .int (nI kk), .ref qA]) (n := 6) (Nat.le_of_ble_eq_true rfl)
  rw [lg_entry_eq]
  generalize (lg_sl ([.ref qP, .int (nI kk), .ref qA]) ++ List.replicate (6 - (lg_sl ([.ref qP, .int (nI kk), .ref qA])).length) Slot.unset).toArray = ls at hl ⊢
  have hl : lv_has ls 6 [(0, .ref qP), (1, .int (nI kk)), (2, .ref qA)] := hl
  have hn8 := hs8 kk hk
  refine lv_aload_n hx hb dX1_room_0 rfl (lv_at hl 2 rfl) ?_
  refine lv_aload_n hx hb dX1_room_1 rfl (lv_at hl 0 rfl) ?_
  refine lv_iload_n hx hb dX1_room_2 rfl (lv_at hl 1 rfl) ?_
  refine lv_iconst (v := 0) hx hb dX1_room_3 (by decide) ?_
  refine kx_ri (va_runV (As := [.int (nI kk), .int 0]) (rest := [.ref qA]) ⟨hx, hb, hml, hown, hts⟩ (c_X1_corner l G cI cZ qP qD qP1 qP2 qP3 sn cor jn pcs sms kk 0 (by omega) (by omega)) (cwV 2 hts gX1_room_X1_corner rfl rfl rfl (by decide +kernel) ⟨(Nat.le_of_ble_eq_true rfl), (Nat.le_of_ble_eq_true rfl)⟩) (kx_preR hK (kx_sub 0 4 hP rfl) 0 rfl rfl) rfl rfl hl.1 rfl (lv_room (Nat.le_of_ble_eq_true rfl)) dX1_room_4 ⟨Nat.zero_le _, Nat.zero_le _⟩) ?_
  refine va_iald hx hb hK.1 hP 4 0 rfl rfl (hco kk 0 hk (by omega)) dX1_room_7 ?_
  refine lv_istore_n (lv' := [(3, .int (pl (cor (kk * 8 + 0)).toNatClampNeg)), (0, .ref qP), (1, .int (nI kk)), (2, .ref qA)]) hx hb dX1_room_8 rfl hl (by decide) rfl (fun ls hl => ?_)
  refine lv_iload_n hx hb dX1_room_9 rfl (lv_at hl 0 rfl) ?_
  refine lv_istore (lv' := [(4, .int (pl (cor (kk * 8 + 0)).toNatClampNeg)), (3, .int (pl (cor (kk * 8 + 0)).toNatClampNeg)), (0, .ref qP), (1, .int (nI kk)), (2, .ref qA)]) hx hb dX1_room_10 hl (by decide) rfl (fun ls hl => ?_)
  refine lv_iconst (v := 1) hx hb dX1_room_12 (by decide) ?_
  refine lv_istore (lv' := [(5, .int 1), (4, .int (pl (cor (kk * 8 + 0)).toNatClampNeg)), (3, .int (pl (cor (kk * 8 + 0)).toNatClampNeg)), (0, .ref qP), (1, .int (nI kk)), (2, .ref qA)]) hx hb dX1_room_13 hl (by decide) rfl (fun ls hl => ?_)
  have lab_15_1 : ∀ (nn_1 : Nat) (j : Nat) (z1_0 : Int32) (z1_1 : Int32) (z1_2 : Nat) (hj : j + 1 ≤ sn kk) (ez1_0 : (kLo pl cor kk j) = z1_0) (ez1_1 : (kHi pl cor kk j) = z1_1) (ez1_2 : (j + 1) = z1_2) (ls : Array Slot) (hl : lv_has ls 6 [(5, .int (nI z1_2)), (4, .int z1_1), (3, .int z1_0), (0, .ref qP), (1, .int (nI kk)), (2, .ref qA)]), (sn kk - j) < nn_1 → W p l e (headSpec wsX1_room rm_X1_room).room s m ([.ref qP, .int (nI kk), .ref qA] : List Value).toArray below meth c s.heap [] 0 0 (MQ below (QcRead (kRoom pl cor sn kk)) ([.ref qP, .int (nI kk), .ref qA] : List Value).toArray s 0 0 (fun _ => False)) (F0 m 15 ls []) := by
    intro nn_1
    induction nn_1 with
    | zero => intro j z1_0 z1_1 z1_2 hj ez1_0 ez1_1 ez1_2 ls hl hn; exact absurd hn (Nat.not_lt_zero _)
    | succ nn_1 ih_1 =>
      intro j z1_0 z1_1 z1_2 hj ez1_0 ez1_1 ez1_2 ls hl hn_1
      subst ez1_0
      subst ez1_1
      subst ez1_2
      refine lv_iload hx hb dX1_room_15 (lv_at hl 0 rfl) ?_
      refine lv_aload_n hx hb dX1_room_17 rfl (lv_at hl 3 rfl) ?_
      refine va_get (D := G) (ci := 1) (v := .ref qP1) (C := RX1) (T := TX1) (N := 6) hx hb hts (fun _ h => List.mem_cons_of_mem _ (List.mem_append_right _ h)) hown hK.1 hP 0 rfl rfl 1 (by decide) (hts (.fieldLink RX1 9 "TailorHouse$Pattern" "sizes" "[I") (List.mem_of_getElem? (i := 1) rfl)) (fun _ h9 => h9) rfl dX1_room_18 ?_
      refine lv_iload_n hx hb dX1_room_21 rfl (lv_at hl 4 rfl) ?_
      refine kx_ialdN hx hb hK.1 hP 1 rfl rfl kk (by omega) (by decide) dX1_room_22 ?_
      refine kx_geN hx hb (j + 1) (sn kk) (by omega) (by omega) (tgt := 62) dX1_room_23 (by decide) (fun c_2 => ?_) (fun c_2 => ?_)
      · skip
        have hE : j = sn kk - 1 := by omega
        subst hE
        refine lv_iload hx hb dX1_room_62 (lv_at hl 1 rfl) ?_
        refine lv_iload_n hx hb dX1_room_64 rfl (lv_at hl 2 rfl) ?_
        refine lv_isub hx hb dX1_room_65 ?_
        refine lv_iconst (v := 1) hx hb dX1_room_66 (by decide) ?_
        refine va_mmax hx hb (by rw [hml]; exact hl.1.symm) hown (hts (.methodLink RX1 84 Lib.Math.max.name) (List.mem_of_getElem? (i := 6) rfl)) (hts (.static Lib.Math.max.name) (List.mem_of_getElem? (i := 7) rfl)) (hts (.initialized "java/lang/Math") (List.mem_of_getElem? (i := 4) rfl)) (hts (.code Lib.Math.max.name Lib.Math.max.code 2 (some .int)) (List.mem_of_getElem? (i := 8) rfl)) (Nat.le_of_ble_eq_true rfl) (Nat.le_of_ble_eq_true rfl) (Nat.zero_le _) (Nat.zero_le _) dX1_room_67 ?_
        exact kx_iret hx hb hr (v := (if ((kHi pl cor kk (sn kk - 1)) - (kLo pl cor kk (sn kk - 1))) < 1 then 1 else ((kHi pl cor kk (sn kk - 1)) - (kLo pl cor kk (sn kk - 1))))) (rfl) dX1_room_70 hlocks
      · skip
        refine lv_iload_n hx hb dX1_room_26 rfl (lv_at hl 2 rfl) ?_
        refine lv_aload_n hx hb dX1_room_27 rfl (lv_at hl 5 rfl) ?_
        refine lv_aload_n hx hb dX1_room_28 rfl (lv_at hl 3 rfl) ?_
        refine lv_iload_n hx hb dX1_room_29 rfl (lv_at hl 4 rfl) ?_
        refine lv_iload hx hb dX1_room_30 (lv_at hl 0 rfl) ?_
        refine kx_ri (va_runV (As := [.int (nI kk), .int (nI (j + 1))]) (rest := [.ref qA, .int (kLo pl cor kk j)]) ⟨hx, hb, hml, hown, hts⟩ (c_X1_corner l G cI cZ qP qD qP1 qP2 qP3 sn cor jn pcs sms kk (j + 1) (by omega) (by omega)) (cwV 2 hts gX1_room_X1_corner rfl rfl rfl (by decide +kernel) ⟨(Nat.le_of_ble_eq_true rfl), (Nat.le_of_ble_eq_true rfl)⟩) (kx_preR hK (kx_sub 0 4 hP rfl) 0 rfl rfl) rfl rfl hl.1 rfl (lv_room (Nat.le_of_ble_eq_true rfl)) dX1_room_32 ⟨Nat.zero_le _, Nat.zero_le _⟩) ?_
        refine va_iald hx hb hK.1 hP 4 0 rfl rfl (hco kk (j + 1) hk (by omega)) dX1_room_35 ?_
        refine va_mmin hx hb (by rw [hml]; exact hl.1.symm) hown (hts (.methodLink RX1 81 Lib.Math.min.name) (List.mem_of_getElem? (i := 2) rfl)) (hts (.static Lib.Math.min.name) (List.mem_of_getElem? (i := 3) rfl)) (hts (.initialized "java/lang/Math") (List.mem_of_getElem? (i := 4) rfl)) (hts (.code Lib.Math.min.name Lib.Math.min.code 2 (some .int)) (List.mem_of_getElem? (i := 5) rfl)) (Nat.le_of_ble_eq_true rfl) (Nat.le_of_ble_eq_true rfl) (Nat.zero_le _) (Nat.zero_le _) dX1_room_36 ?_
        refine lv_istore_n (lv' := [(3, .int (if (pl (cor (kk * 8 + (j + 1))).toNatClampNeg) < (kLo pl cor kk j) then (pl (cor (kk * 8 + (j + 1))).toNatClampNeg) else (kLo pl cor kk j))), (5, .int (nI (j + 1))), (4, .int (kHi pl cor kk j)), (0, .ref qP), (1, .int (nI kk)), (2, .ref qA)]) hx hb dX1_room_39 rfl hl (by decide) rfl (fun ls hl => ?_)
        refine lv_iload hx hb dX1_room_40 (lv_at hl 2 rfl) ?_
        refine lv_aload_n hx hb dX1_room_42 rfl (lv_at hl 5 rfl) ?_
        refine lv_aload_n hx hb dX1_room_43 rfl (lv_at hl 3 rfl) ?_
        refine lv_iload_n hx hb dX1_room_44 rfl (lv_at hl 4 rfl) ?_
        refine lv_iload hx hb dX1_room_45 (lv_at hl 1 rfl) ?_
        refine kx_ri (va_runV (As := [.int (nI kk), .int (nI (j + 1))]) (rest := [.ref qA, .int (kHi pl cor kk j)]) ⟨hx, hb, hml, hown, hts⟩ (c_X1_corner l G cI cZ qP qD qP1 qP2 qP3 sn cor jn pcs sms kk (j + 1) (by omega) (by omega)) (cwV 2 hts gX1_room_X1_corner rfl rfl rfl (by decide +kernel) ⟨(Nat.le_of_ble_eq_true rfl), (Nat.le_of_ble_eq_true rfl)⟩) (kx_preR hK (kx_sub 0 4 hP rfl) 0 rfl rfl) rfl rfl hl.1 rfl (lv_room (Nat.le_of_ble_eq_true rfl)) dX1_room_47 ⟨Nat.zero_le _, Nat.zero_le _⟩) ?_
        refine va_iald hx hb hK.1 hP 4 0 rfl rfl (hco kk (j + 1) hk (by omega)) dX1_room_50 ?_
        refine va_mmax hx hb (by rw [hml]; exact hl.1.symm) hown (hts (.methodLink RX1 84 Lib.Math.max.name) (List.mem_of_getElem? (i := 6) rfl)) (hts (.static Lib.Math.max.name) (List.mem_of_getElem? (i := 7) rfl)) (hts (.initialized "java/lang/Math") (List.mem_of_getElem? (i := 4) rfl)) (hts (.code Lib.Math.max.name Lib.Math.max.code 2 (some .int)) (List.mem_of_getElem? (i := 8) rfl)) (Nat.le_of_ble_eq_true rfl) (Nat.le_of_ble_eq_true rfl) (Nat.zero_le _) (Nat.zero_le _) dX1_room_51 ?_
        refine lv_istore (lv' := [(4, .int (if (kHi pl cor kk j) < (pl (cor (kk * 8 + (j + 1))).toNatClampNeg) then (pl (cor (kk * 8 + (j + 1))).toNatClampNeg) else (kHi pl cor kk j))), (3, .int (if (pl (cor (kk * 8 + (j + 1))).toNatClampNeg) < (kLo pl cor kk j) then (pl (cor (kk * 8 + (j + 1))).toNatClampNeg) else (kLo pl cor kk j))), (5, .int (nI (j + 1))), (0, .ref qP), (1, .int (nI kk)), (2, .ref qA)]) hx hb dX1_room_54 hl (by decide) rfl (fun ls hl => ?_)
        refine lv_iinc (v := nI (j + 1 + 1)) (lv' := [(5, .int (nI (j + 1 + 1))), (4, .int (if (kHi pl cor kk j) < (pl (cor (kk * 8 + (j + 1))).toNatClampNeg) then (pl (cor (kk * 8 + (j + 1))).toNatClampNeg) else (kHi pl cor kk j))), (3, .int (if (pl (cor (kk * 8 + (j + 1))).toNatClampNeg) < (kLo pl cor kk j) then (pl (cor (kk * 8 + (j + 1))).toNatClampNeg) else (kLo pl cor kk j))), (0, .ref qP), (1, .int (nI kk)), (2, .ref qA)]) hx hb dX1_room_56 hl (k := 2) rfl (nI_1 (j + 1)) (by decide) rfl (fun ls hl => ?_)
        refine lv_goto (tgt := 15) hx hb dX1_room_59 (by decide) ?_
        exact ih_1 (j + 1) (if (pl (cor (kk * 8 + (j + 1))).toNatClampNeg) < (kLo pl cor kk j) then (pl (cor (kk * 8 + (j + 1))).toNatClampNeg) else (kLo pl cor kk j)) (if (kHi pl cor kk j) < (pl (cor (kk * 8 + (j + 1))).toNatClampNeg) then (pl (cor (kk * 8 + (j + 1))).toNatClampNeg) else (kHi pl cor kk j)) (j + 1 + 1) (by omega) (rfl) (rfl) (rfl) ls (lv_sub hl [0, 1, 2, 3, 4, 5] rfl) (by omega)
  exact lab_15_1 ((sn kk - 0) + 1) 0 (pl (cor (kk * 8 + 0)).toNatClampNeg) (pl (cor (kk * 8 + 0)).toNatClampNeg) 1 (by omega) (rfl) (rfl) (rfl) ls (lv_sub hl [0, 1, 2, 3, 4, 5] rfl) (Nat.lt_succ_self _)
abbrev rm_X1_roomRight : Room := { frames := 2, cells := 0, slots := 0, locals := 47 }
set_option maxHeartbeats 4000000 in
set_option maxRecDepth 100000 in
theorem c_X1_roomRight (l : Launch) (G : va_G) (cI cZ : ClassId) (qP : Nat) (qD : Nat) (qP1 : Nat) (qP2 : Nat) (qP3 : Nat) (sn : Nat → Nat) (cor : Nat → Int32) (jn : Nat → Nat) (pcs : Nat) (sms : Nat) (hT : Nat) (qD1 : Nat) (qD2 : Nat) (qD3 : Nat) (qD4 : Nat) (qD5 : Nat) (qD6 : Nat) (qD7 : Nat) (qD8 : Nat) (kd : Nat → Int32) (ba : Nat → Int32) (ot : Nat → Int32) (aa : Nat → Int32) (bb : Nat → Int32) (bm : Nat → Int32) (xx : Nat → Int32) (yy : Nat → Int32) (pts : Nat) (kk : Nat) (hpc : pcs ≤ 7) (hs8 : ∀ k, k < pcs → sn k ≤ 8) (hco : ∀ k i, k < pcs → i < sn k → vp_in (cor (k * 8 + i)) 20) (hk : kk < pcs) (hs1 : 0 < sn kk) : Met l yX1_roomRight wsX1_roomRight rm_X1_roomRight (kx_Pr G cI cZ [(qD, .inr (0, [.ref hT, .ref qD1, .ref qD2, .ref qD3, .ref qD4, .ref qD5, .ref qD6, .ref qD7, .ref qD8, .int (nI pts)])), (qD1, .inl (cI, 20, .inl kd)), (qD2, .inl (cI, 20, .inl ba)), (qD3, .inl (cI, 20, .inl ot)), (qD4, .inl (cI, 20, .inl aa)), (qD5, .inl (cI, 20, .inl bb)), (qD6, .inl (cI, 6, .inl bm)), (qD7, .inl (cI, 20, .inl xx)), (qD8, .inl (cI, 20, .inl yy)), (qP, .inr (1, [.ref qD, .ref qP1, .ref qP2, .ref qP3, .int (nI pcs), .int (nI sms)])), (qP1, .inl (cI, 7, .inl (fun k => nI (sn k)))), (qP2, .inl (cI, 56, .inl cor)), (qP3, .inl (cI, 40, .inl (fun k => nI (jn k))))] [.ref qP, .int (nI kk)]) (QcRead (kRoom xx cor sn kk)) 0 0 (fun _ => False) := by
  refine Met.ofW (cc := cX1_roomRight) (maxL := 2) (ret := (some .int)) (by decide) rfl ?_
  intro p e s m args below meth c s₁ B hml hv
  obtain ⟨rfl, hP, hK⟩ := hv
  have hx := B.exec
  have hb := B.bytes
  have hr := B.returns
  have hts := atoms_spec (ws := wsX1_roomRight) B.pre
  have hown : s.vm.findClass RX1 = some m.cls := findClass_of_methodNamed B.named
  have hlocks := B.notSynchronized
  have hl := lv_entry ([.ref qP, .int (nI kk)]) (n := 2) (Nat.le_of_ble_eq_true rfl)
  rw [lg_entry_eq]
  generalize (lg_sl ([.ref qP, .int (nI kk)]) ++ List.replicate (2 - (lg_sl ([.ref qP, .int (nI kk)])).length) Slot.unset).toArray = ls at hl ⊢
  have hl : lv_has ls 2 [(0, .ref qP), (1, .int (nI kk))] := hl
  refine lv_aload_n hx hb dX1_roomRight_0 rfl (lv_at hl 0 rfl) ?_
  refine lv_iload_n hx hb dX1_roomRight_1 rfl (lv_at hl 1 rfl) ?_
  refine lv_aload_n hx hb dX1_roomRight_2 rfl (lv_at hl 0 rfl) ?_
  refine va_get (D := G) (ci := 1) (v := .ref qD) (C := RX1) (T := TX1) (N := 6) hx hb hts (fun _ h => List.mem_cons_of_mem _ (List.mem_append_left _ (List.mem_append_right _ h))) hown hK.1 hP 9 rfl rfl 0 (by decide) (hts (.fieldLink RX1 28 "TailorHouse$Pattern" "draft" "LTailorHouse$Draft;") (List.mem_of_getElem? (i := 1) rfl)) (fun _ h9 => h9) rfl dX1_roomRight_3 ?_
  refine va_getN (D := G) (ci := 0) (v := .ref qD7) (C := RX0) (T := TX0) (N := 10) hx hb hts (fun _ h => List.mem_cons_of_mem _ (List.mem_append_right _ h)) hown hK.1 hP 0 rfl rfl 7 (by decide) (va_Nw.use rfl (hK.2 _ (List.mem_of_getElem? (i := 1) rfl))) (fun _ h9 => h9) rfl dX1_roomRight_6 ?_
  refine kx_ri (va_runV (As := [.int (nI kk), .ref qD7]) (rest := []) ⟨hx, hb, hml, hown, hts⟩ (c_X1_room l G cI cZ qP qD qP1 qP2 qP3 sn cor jn pcs sms xx kk qD7 (by first | assumption | omega) (by first | assumption | omega) (by first | assumption | omega) (by first | assumption | omega) (by first | assumption | omega)) (cwV 2 hts gX1_roomRight_X1_room rfl rfl rfl (by decide +kernel) ⟨(Nat.le_of_ble_eq_true rfl), (Nat.le_of_ble_eq_true rfl)⟩) (kx_preR hK (hP.sub [9, 10, 11, 12, 7] rfl) 0 rfl rfl) rfl rfl hl.1 rfl (lv_room (Nat.le_of_ble_eq_true rfl)) dX1_roomRight_9 ⟨Nat.zero_le _, Nat.zero_le _⟩) ?_
  exact kx_iret hx hb hr (v := (kRoom xx cor sn kk)) (rfl) dX1_roomRight_12 hlocks
abbrev rm_X1_roomDown : Room := { frames := 2, cells := 0, slots := 0, locals := 47 }
set_option maxHeartbeats 4000000 in
set_option maxRecDepth 100000 in
theorem c_X1_roomDown (l : Launch) (G : va_G) (cI cZ : ClassId) (qP : Nat) (qD : Nat) (qP1 : Nat) (qP2 : Nat) (qP3 : Nat) (sn : Nat → Nat) (cor : Nat → Int32) (jn : Nat → Nat) (pcs : Nat) (sms : Nat) (hT : Nat) (qD1 : Nat) (qD2 : Nat) (qD3 : Nat) (qD4 : Nat) (qD5 : Nat) (qD6 : Nat) (qD7 : Nat) (qD8 : Nat) (kd : Nat → Int32) (ba : Nat → Int32) (ot : Nat → Int32) (aa : Nat → Int32) (bb : Nat → Int32) (bm : Nat → Int32) (xx : Nat → Int32) (yy : Nat → Int32) (pts : Nat) (kk : Nat) (hpc : pcs ≤ 7) (hs8 : ∀ k, k < pcs → sn k ≤ 8) (hco : ∀ k i, k < pcs → i < sn k → vp_in (cor (k * 8 + i)) 20) (hk : kk < pcs) (hs1 : 0 < sn kk) : Met l yX1_roomDown wsX1_roomDown rm_X1_roomDown (kx_Pr G cI cZ [(qD, .inr (0, [.ref hT, .ref qD1, .ref qD2, .ref qD3, .ref qD4, .ref qD5, .ref qD6, .ref qD7, .ref qD8, .int (nI pts)])), (qD1, .inl (cI, 20, .inl kd)), (qD2, .inl (cI, 20, .inl ba)), (qD3, .inl (cI, 20, .inl ot)), (qD4, .inl (cI, 20, .inl aa)), (qD5, .inl (cI, 20, .inl bb)), (qD6, .inl (cI, 6, .inl bm)), (qD7, .inl (cI, 20, .inl xx)), (qD8, .inl (cI, 20, .inl yy)), (qP, .inr (1, [.ref qD, .ref qP1, .ref qP2, .ref qP3, .int (nI pcs), .int (nI sms)])), (qP1, .inl (cI, 7, .inl (fun k => nI (sn k)))), (qP2, .inl (cI, 56, .inl cor)), (qP3, .inl (cI, 40, .inl (fun k => nI (jn k))))] [.ref qP, .int (nI kk)]) (QcRead (kRoom yy cor sn kk)) 0 0 (fun _ => False) := by
  refine Met.ofW (cc := cX1_roomDown) (maxL := 2) (ret := (some .int)) (by decide) rfl ?_
  intro p e s m args below meth c s₁ B hml hv
  obtain ⟨rfl, hP, hK⟩ := hv
  have hx := B.exec
  have hb := B.bytes
  have hr := B.returns
  have hts := atoms_spec (ws := wsX1_roomDown) B.pre
  have hown : s.vm.findClass RX1 = some m.cls := findClass_of_methodNamed B.named
  have hlocks := B.notSynchronized
  have hl := lv_entry ([.ref qP, .int (nI kk)]) (n := 2) (Nat.le_of_ble_eq_true rfl)
  rw [lg_entry_eq]
  generalize (lg_sl ([.ref qP, .int (nI kk)]) ++ List.replicate (2 - (lg_sl ([.ref qP, .int (nI kk)])).length) Slot.unset).toArray = ls at hl ⊢
  have hl : lv_has ls 2 [(0, .ref qP), (1, .int (nI kk))] := hl
  refine lv_aload_n hx hb dX1_roomDown_0 rfl (lv_at hl 0 rfl) ?_
  refine lv_iload_n hx hb dX1_roomDown_1 rfl (lv_at hl 1 rfl) ?_
  refine lv_aload_n hx hb dX1_roomDown_2 rfl (lv_at hl 0 rfl) ?_
  refine va_get (D := G) (ci := 1) (v := .ref qD) (C := RX1) (T := TX1) (N := 6) hx hb hts (fun _ h => List.mem_cons_of_mem _ (List.mem_append_left _ (List.mem_append_right _ h))) hown hK.1 hP 9 rfl rfl 0 (by decide) (hts (.fieldLink RX1 28 "TailorHouse$Pattern" "draft" "LTailorHouse$Draft;") (List.mem_of_getElem? (i := 1) rfl)) (fun _ h9 => h9) rfl dX1_roomDown_3 ?_
  refine va_getN (D := G) (ci := 0) (v := .ref qD8) (C := RX0) (T := TX0) (N := 10) hx hb hts (fun _ h => List.mem_cons_of_mem _ (List.mem_append_right _ h)) hown hK.1 hP 0 rfl rfl 8 (by decide) (va_Nw.use rfl (hK.2 _ (List.mem_of_getElem? (i := 3) rfl))) (fun _ h9 => h9) rfl dX1_roomDown_6 ?_
  refine kx_ri (va_runV (As := [.int (nI kk), .ref qD8]) (rest := []) ⟨hx, hb, hml, hown, hts⟩ (c_X1_room l G cI cZ qP qD qP1 qP2 qP3 sn cor jn pcs sms yy kk qD8 (by first | assumption | omega) (by first | assumption | omega) (by first | assumption | omega) (by first | assumption | omega) (by first | assumption | omega)) (cwV 2 hts gX1_roomDown_X1_room rfl rfl rfl (by decide +kernel) ⟨(Nat.le_of_ble_eq_true rfl), (Nat.le_of_ble_eq_true rfl)⟩) (kx_preR hK (hP.sub [9, 10, 11, 12, 8] rfl) 0 rfl rfl) rfl rfl hl.1 rfl (lv_room (Nat.le_of_ble_eq_true rfl)) dX1_roomDown_9 ⟨Nat.zero_le _, Nat.zero_le _⟩) ?_
  exact kx_iret hx hb hr (v := (kRoom yy cor sn kk)) (rfl) dX1_roomDown_12 hlocks
abbrev rm_X1_mixPieces : Room := { frames := 1, cells := 0, slots := 0, locals := 23 }
set_option maxHeartbeats 4000000 in
set_option maxRecDepth 100000 in
theorem c_X1_mixPieces (l : Launch) (G : va_G) (cI cZ : ClassId) (qP : Nat) (qD : Nat) (qP1 : Nat) (qP2 : Nat) (qP3 : Nat) (sn : Nat → Nat) (cor : Nat → Int32) (jn : Nat → Nat) (pcs : Nat) (sms : Nat) (hh : Int64) (hpc : pcs ≤ 7) (hs8 : ∀ k, k < pcs → sn k ≤ 8) : Met l yX1_mixPieces wsX1_mixPieces rm_X1_mixPieces (kx_Pr G cI cZ [(qP, .inr (1, [.ref qD, .ref qP1, .ref qP2, .ref qP3, .int (nI pcs), .int (nI sms)])), (qP1, .inl (cI, 7, .inl (fun k => nI (sn k)))), (qP2, .inl (cI, 56, .inl cor)), (qP3, .inl (cI, 40, .inl (fun k => nI (jn k))))] [.ref qP, .long hh]) (kx_QL (kXP cor sn pcs hh)) 0 0 (fun _ => False) := by
  refine Met.ofW (cc := cX1_mixPieces) (maxL := 7) (ret := (some .long)) (by decide) rfl ?_
  intro p e s m args below meth c s₁ B hml hv
  obtain ⟨rfl, hP, hK⟩ := hv
  have hx := B.exec
  have hb := B.bytes
  have hr := B.returns
  have hts := atoms_spec (ws := wsX1_mixPieces) B.pre
  have hown : s.vm.findClass RX1 = some m.cls := findClass_of_methodNamed B.named
  have hlocks := B.notSynchronized
  have hl := lv_entry ([.ref qP, .long hh]) (n := 7) (Nat.le_of_ble_eq_true rfl)
  rw [lg_entry_eq]
  generalize (lg_sl ([.ref qP, .long hh]) ++ List.replicate (7 - (lg_sl ([.ref qP, .long hh])).length) Slot.unset).toArray = ls at hl ⊢
  have hl : lv_has ls 7 [(0, .ref qP), (1, .long hh)] := hl
  refine lv_lload_n hx hb dX1_mixPieces_0 rfl (lv_at hl 1 rfl) ?_
  refine lv_lstore_n (lv' := [(3, .long hh), (0, .ref qP), (1, .long hh)]) hx hb dX1_mixPieces_1 rfl hl (by decide) rfl (fun ls hl => ?_)
  refine lv_iconst (v := 0) hx hb dX1_mixPieces_2 (by decide) ?_
  refine lv_istore (lv' := [(5, .int 0), (3, .long hh), (0, .ref qP), (1, .long hh)]) hx hb dX1_mixPieces_3 hl (by decide) rfl (fun ls hl => ?_)
  have lab_5_1 : ∀ (nn_1 : Nat) (kk : Nat) (z1_0 : Int64) (z1_1 : Nat) (hk : kk ≤ pcs) (ez1_0 : (kXP cor sn kk hh) = z1_0) (ez1_1 : kk = z1_1) (ls : Array Slot) (hl : lv_has ls 7 [(5, .int (nI z1_1)), (3, .long z1_0), (0, .ref qP), (1, .long hh)]), (pcs - kk) < nn_1 → W p l e (headSpec wsX1_mixPieces rm_X1_mixPieces).room s m ([.ref qP, .long hh] : List Value).toArray below meth c s.heap [] 0 0 (MQ below (kx_QL (kXP cor sn pcs hh)) ([.ref qP, .long hh] : List Value).toArray s 0 0 (fun _ => False)) (F0 m 5 ls []) := by
    intro nn_1
    induction nn_1 with
    | zero => intro kk z1_0 z1_1 hk ez1_0 ez1_1 ls hl hn; exact absurd hn (Nat.not_lt_zero _)
    | succ nn_1 ih_1 =>
      intro kk z1_0 z1_1 hk ez1_0 ez1_1 ls hl hn_1
      subst ez1_0
      subst ez1_1
      refine lv_iload hx hb dX1_mixPieces_5 (lv_at hl 0 rfl) ?_
      refine lv_aload_n hx hb dX1_mixPieces_7 rfl (lv_at hl 2 rfl) ?_
      refine va_get (D := G) (ci := 1) (v := .int (nI pcs)) (C := RX1) (T := TX1) (N := 6) hx hb hts (fun _ h => List.mem_cons_of_mem _ (List.mem_append_right _ h)) hown hK.1 hP 0 rfl rfl 4 (by decide) (hts (.fieldLink RX1 21 "TailorHouse$Pattern" "pieces" "I") (List.mem_of_getElem? (i := 1) rfl)) (fun _ h9 => h9) rfl dX1_mixPieces_8 ?_
      refine kx_geN hx hb kk pcs (by omega) (by omega) (tgt := 68) dX1_mixPieces_11 (by decide) (fun c_2 => ?_) (fun c_2 => ?_)
      · skip
        have hE : pcs = kk := by omega
        subst hE
        refine lv_lload_n hx hb dX1_mixPieces_68 rfl (lv_at hl 1 rfl) ?_
        exact kx_lret hx hb hr (rfl) dX1_mixPieces_69 hlocks
      · skip
        have hn8 := hs8 kk (by omega)
        refine lv_lload_n hx hb dX1_mixPieces_14 rfl (lv_at hl 1 rfl) ?_
        refine lv_aload_n hx hb dX1_mixPieces_15 rfl (lv_at hl 2 rfl) ?_
        refine va_get (D := G) (ci := 1) (v := .ref qP1) (C := RX1) (T := TX1) (N := 6) hx hb hts (fun _ h => List.mem_cons_of_mem _ (List.mem_append_right _ h)) hown hK.1 hP 0 rfl rfl 1 (by decide) (hts (.fieldLink RX1 9 "TailorHouse$Pattern" "sizes" "[I") (List.mem_of_getElem? (i := 2) rfl)) (fun _ h9 => h9) rfl dX1_mixPieces_16 ?_
        refine lv_iload hx hb dX1_mixPieces_19 (lv_at hl 0 rfl) ?_
        refine kx_ialdN hx hb hK.1 hP 1 rfl rfl kk (by omega) (by decide) dX1_mixPieces_21 ?_
        refine lv_i2l hx hb dX1_mixPieces_22 rfl ?_
        refine kx_rl (va_runSN (As := [.long (kXP cor sn kk hh), .long ((nI (sn kk)).toInt64)]) (rest := []) ⟨hx, hb, hml, hown, hts⟩ (c_X5_mix l (kXP cor sn kk hh) ((nI (sn kk)).toInt64)) ⟨va_cnB 2 hts gX1_mixPieces_X5_mix_n77 rfl rfl rfl (hK.2 _ (List.mem_of_getElem? (i := 25) rfl)) (hts (.initialized RX5) (List.mem_of_getElem? (i := 4) rfl)) (by decide +kernel) ⟨(Nat.le_of_ble_eq_true rfl), (Nat.le_of_ble_eq_true rfl)⟩, (hts (.static yX5_mix) (List.mem_of_getElem? (i := 3) rfl)), trivial⟩ kx_preS rfl rfl hl.1 rfl (lv_room (Nat.le_of_ble_eq_true rfl)) dX1_mixPieces_23 ⟨Nat.zero_le _, Nat.zero_le _⟩) ?_
        refine lv_lstore_n (lv' := [(3, .long (kmix (kXP cor sn kk hh) ((nI (sn kk)).toInt64))), (5, .int (nI kk)), (0, .ref qP), (1, .long hh)]) hx hb dX1_mixPieces_26 rfl hl (by decide) rfl (fun ls hl => ?_)
        refine lv_iconst (v := 0) hx hb dX1_mixPieces_27 (by decide) ?_
        refine lv_istore (lv' := [(6, .int 0), (3, .long (kmix (kXP cor sn kk hh) ((nI (sn kk)).toInt64))), (5, .int (nI kk)), (0, .ref qP), (1, .long hh)]) hx hb dX1_mixPieces_28 hl (by decide) rfl (fun ls hl => ?_)
        have lab_30_3 : ∀ (nn_3 : Nat) (i : Nat) (z3_0 : Int64) (z3_1 : Nat) (hi : i ≤ sn kk) (ez3_0 : (kXPi cor kk i (kmix (kXP cor sn kk hh) (nI (sn kk)).toInt64)) = z3_0) (ez3_1 : i = z3_1) (ls : Array Slot) (hl : lv_has ls 7 [(6, .int (nI z3_1)), (3, .long z3_0), (5, .int (nI kk)), (0, .ref qP), (1, .long hh)]), (sn kk - i) < nn_3 → W p l e (headSpec wsX1_mixPieces rm_X1_mixPieces).room s m ([.ref qP, .long hh] : List Value).toArray below meth c s.heap [] 0 0 (MQ below (kx_QL (kXP cor sn pcs hh)) ([.ref qP, .long hh] : List Value).toArray s 0 0 (fun _ => False)) (F0 m 30 ls []) := by
          intro nn_3
          induction nn_3 with
          | zero => intro i z3_0 z3_1 hi ez3_0 ez3_1 ls hl hn; exact absurd hn (Nat.not_lt_zero _)
          | succ nn_3 ih_3 =>
            intro i z3_0 z3_1 hi ez3_0 ez3_1 ls hl hn_3
            subst ez3_0
            subst ez3_1
            refine lv_iload hx hb dX1_mixPieces_30 (lv_at hl 0 rfl) ?_
            refine lv_aload_n hx hb dX1_mixPieces_32 rfl (lv_at hl 3 rfl) ?_
            refine va_get (D := G) (ci := 1) (v := .ref qP1) (C := RX1) (T := TX1) (N := 6) hx hb hts (fun _ h => List.mem_cons_of_mem _ (List.mem_append_right _ h)) hown hK.1 hP 0 rfl rfl 1 (by decide) (hts (.fieldLink RX1 9 "TailorHouse$Pattern" "sizes" "[I") (List.mem_of_getElem? (i := 2) rfl)) (fun _ h9 => h9) rfl dX1_mixPieces_33 ?_
            refine lv_iload hx hb dX1_mixPieces_36 (lv_at hl 2 rfl) ?_
            refine kx_ialdN hx hb hK.1 hP 1 rfl rfl kk (by omega) (by decide) dX1_mixPieces_38 ?_
            refine kx_geN hx hb i (sn kk) (by omega) (by omega) (tgt := 62) dX1_mixPieces_39 (by decide) (fun c_4 => ?_) (fun c_4 => ?_)
            · skip
              have hE : i = sn kk := by omega
              subst hE
              refine lv_iinc (v := nI (kk + 1)) (lv' := [(5, .int (nI (kk + 1))), (6, .int (nI (sn kk))), (3, .long (kXPi cor kk (sn kk) (kmix (kXP cor sn kk hh) (nI (sn kk)).toInt64))), (0, .ref qP), (1, .long hh)]) hx hb dX1_mixPieces_62 hl (k := 2) rfl (nI_1 kk) (by decide) rfl (fun ls hl => ?_)
              refine lv_goto (tgt := 5) hx hb dX1_mixPieces_65 (by decide) ?_
              exact ih_1 (kk + 1) (kXPi cor kk (sn kk) (kmix (kXP cor sn kk hh) (nI (sn kk)).toInt64)) (kk + 1) (by omega) (rfl) rfl ls (lv_sub hl [0, 2, 3, 4] rfl) (by omega)
            · skip
              refine lv_lload_n hx hb dX1_mixPieces_42 rfl (lv_at hl 1 rfl) ?_
              refine lv_aload_n hx hb dX1_mixPieces_43 rfl (lv_at hl 3 rfl) ?_
              refine lv_iload hx hb dX1_mixPieces_44 (lv_at hl 2 rfl) ?_
              refine lv_iload hx hb dX1_mixPieces_46 (lv_at hl 0 rfl) ?_
              refine kx_ri (va_runV (As := [.int (nI kk), .int (nI i)]) (rest := [.long (kXPi cor kk i (kmix (kXP cor sn kk hh) (nI (sn kk)).toInt64))]) ⟨hx, hb, hml, hown, hts⟩ (c_X1_corner l G cI cZ qP qD qP1 qP2 qP3 sn cor jn pcs sms kk i (by first | assumption | omega) (by first | assumption | omega)) (cwV 2 hts gX1_mixPieces_X1_corner rfl rfl rfl (by decide +kernel) ⟨(Nat.le_of_ble_eq_true rfl), (Nat.le_of_ble_eq_true rfl)⟩) (kx_preR hK (kx_sub 0 4 hP rfl) 0 rfl rfl) rfl rfl hl.1 rfl (lv_room (Nat.le_of_ble_eq_true rfl)) dX1_mixPieces_48 ⟨Nat.zero_le _, Nat.zero_le _⟩) ?_
              refine lv_i2l hx hb dX1_mixPieces_51 rfl ?_
              refine kx_rl (va_runSN (As := [.long (kXPi cor kk i (kmix (kXP cor sn kk hh) (nI (sn kk)).toInt64)), .long ((cor (kk * 8 + i)).toInt64)]) (rest := []) ⟨hx, hb, hml, hown, hts⟩ (c_X5_mix l (kXPi cor kk i (kmix (kXP cor sn kk hh) (nI (sn kk)).toInt64)) ((cor (kk * 8 + i)).toInt64)) ⟨va_cnB 2 hts gX1_mixPieces_X5_mix_n77 rfl rfl rfl (hK.2 _ (List.mem_of_getElem? (i := 25) rfl)) (hts (.initialized RX5) (List.mem_of_getElem? (i := 4) rfl)) (by decide +kernel) ⟨(Nat.le_of_ble_eq_true rfl), (Nat.le_of_ble_eq_true rfl)⟩, (hts (.static yX5_mix) (List.mem_of_getElem? (i := 3) rfl)), trivial⟩ kx_preS rfl rfl hl.1 rfl (lv_room (Nat.le_of_ble_eq_true rfl)) dX1_mixPieces_52 ⟨Nat.zero_le _, Nat.zero_le _⟩) ?_
              refine lv_lstore_n (lv' := [(3, .long (kmix (kXPi cor kk i (kmix (kXP cor sn kk hh) (nI (sn kk)).toInt64)) ((cor (kk * 8 + i)).toInt64))), (6, .int (nI i)), (5, .int (nI kk)), (0, .ref qP), (1, .long hh)]) hx hb dX1_mixPieces_55 rfl hl (by decide) rfl (fun ls hl => ?_)
              refine lv_iinc (v := nI (i + 1)) (lv' := [(6, .int (nI (i + 1))), (3, .long (kmix (kXPi cor kk i (kmix (kXP cor sn kk hh) (nI (sn kk)).toInt64)) ((cor (kk * 8 + i)).toInt64))), (5, .int (nI kk)), (0, .ref qP), (1, .long hh)]) hx hb dX1_mixPieces_56 hl (k := 1) rfl (nI_1 i) (by decide) rfl (fun ls hl => ?_)
              refine lv_goto (tgt := 30) hx hb dX1_mixPieces_59 (by decide) ?_
              exact ih_3 (i + 1) (kmix (kXPi cor kk i (kmix (kXP cor sn kk hh) (nI (sn kk)).toInt64)) ((cor (kk * 8 + i)).toInt64)) (i + 1) (by omega) (rfl) rfl ls (lv_sub hl [0, 1, 2, 3, 4] rfl) (by omega)
        exact lab_30_3 ((sn kk - 0) + 1) 0 (kmix (kXP cor sn kk hh) ((nI (sn kk)).toInt64)) 0 (by omega) (rfl) rfl ls (lv_sub hl [0, 1, 2, 3, 4] rfl) (Nat.lt_succ_self _)
  exact lab_5_1 ((pcs - 0) + 1) 0 hh 0 (by omega) (rfl) rfl ls (lv_sub hl [0, 1, 2, 3] rfl) (Nat.lt_succ_self _)
abbrev rm_X1_mixSeams : Room := { frames := 1, cells := 0, slots := 0, locals := 23 }
set_option maxHeartbeats 4000000 in
set_option maxRecDepth 100000 in
theorem c_X1_mixSeams (l : Launch) (G : va_G) (cI cZ : ClassId) (qP : Nat) (qD : Nat) (qP1 : Nat) (qP2 : Nat) (qP3 : Nat) (sn : Nat → Nat) (cor : Nat → Int32) (jn : Nat → Nat) (pcs : Nat) (sms : Nat) (hh : Int64) (hsm : sms ≤ 10) : Met l yX1_mixSeams wsX1_mixSeams rm_X1_mixSeams (kx_Pr G cI cZ [(qP, .inr (1, [.ref qD, .ref qP1, .ref qP2, .ref qP3, .int (nI pcs), .int (nI sms)])), (qP1, .inl (cI, 7, .inl (fun k => nI (sn k)))), (qP2, .inl (cI, 56, .inl cor)), (qP3, .inl (cI, 40, .inl (fun k => nI (jn k))))] [.ref qP, .long hh]) (kx_QL (kXS jn (sms * 4) hh)) 0 0 (fun _ => False) := by
  refine Met.ofW (cc := cX1_mixSeams) (maxL := 6) (ret := (some .long)) (by decide) rfl ?_
  intro p e s m args below meth c s₁ B hml hv
  obtain ⟨rfl, hP, hK⟩ := hv
  have hx := B.exec
  have hb := B.bytes
  have hr := B.returns
  have hts := atoms_spec (ws := wsX1_mixSeams) B.pre
  have hown : s.vm.findClass RX1 = some m.cls := findClass_of_methodNamed B.named
  have hlocks := B.notSynchronized
  have hl := lv_entry ([.ref qP, .long hh]) (n := 6) (Nat.le_of_ble_eq_true rfl)
  rw [lg_entry_eq]
  generalize (lg_sl ([.ref qP, .long hh]) ++ List.replicate (6 - (lg_sl ([.ref qP, .long hh])).length) Slot.unset).toArray = ls at hl ⊢
  have hl : lv_has ls 6 [(0, .ref qP), (1, .long hh)] := hl
  refine lv_lload_n hx hb dX1_mixSeams_0 rfl (lv_at hl 1 rfl) ?_
  refine lv_lstore_n (lv' := [(3, .long hh), (0, .ref qP), (1, .long hh)]) hx hb dX1_mixSeams_1 rfl hl (by decide) rfl (fun ls hl => ?_)
  refine lv_iconst (v := 0) hx hb dX1_mixSeams_2 (by decide) ?_
  refine lv_istore (lv' := [(5, .int 0), (3, .long hh), (0, .ref qP), (1, .long hh)]) hx hb dX1_mixSeams_3 hl (by decide) rfl (fun ls hl => ?_)
  have lab_5_1 : ∀ (nn_1 : Nat) (i : Nat) (z1_0 : Int64) (z1_1 : Nat) (hi : i ≤ sms * 4) (ez1_0 : (kXS jn i hh) = z1_0) (ez1_1 : i = z1_1) (ls : Array Slot) (hl : lv_has ls 6 [(5, .int (nI z1_1)), (3, .long z1_0), (0, .ref qP), (1, .long hh)]), (sms * 4 - i) < nn_1 → W p l e (headSpec wsX1_mixSeams rm_X1_mixSeams).room s m ([.ref qP, .long hh] : List Value).toArray below meth c s.heap [] 0 0 (MQ below (kx_QL (kXS jn (sms * 4) hh)) ([.ref qP, .long hh] : List Value).toArray s 0 0 (fun _ => False)) (F0 m 5 ls []) := by
    intro nn_1
    induction nn_1 with
    | zero => intro i z1_0 z1_1 hi ez1_0 ez1_1 ls hl hn; exact absurd hn (Nat.not_lt_zero _)
    | succ nn_1 ih_1 =>
      intro i z1_0 z1_1 hi ez1_0 ez1_1 ls hl hn_1
      subst ez1_0
      subst ez1_1
      refine lv_iload hx hb dX1_mixSeams_5 (lv_at hl 0 rfl) ?_
      refine lv_aload_n hx hb dX1_mixSeams_7 rfl (lv_at hl 2 rfl) ?_
      refine va_get (D := G) (ci := 1) (v := .int (nI sms)) (C := RX1) (T := TX1) (N := 6) hx hb hts (fun _ h => List.mem_cons_of_mem _ (List.mem_append_right _ h)) hown hK.1 hP 0 rfl rfl 5 (by decide) (hts (.fieldLink RX1 25 "TailorHouse$Pattern" "seams" "I") (List.mem_of_getElem? (i := 1) rfl)) (fun _ h9 => h9) rfl dX1_mixSeams_8 ?_
      refine lv_iconst (v := 4) hx hb dX1_mixSeams_11 (by decide) ?_
      refine kx_imulN hx hb sms 4 dX1_mixSeams_12 ?_
      refine kx_geN hx hb i (sms * 4) (by omega) (by omega) (tgt := 35) dX1_mixSeams_13 (by decide) (fun c_2 => ?_) (fun c_2 => ?_)
      · skip
        have hE : i = sms * 4 := by omega
        subst hE
        refine lv_lload_n hx hb dX1_mixSeams_35 rfl (lv_at hl 1 rfl) ?_
        exact kx_lret hx hb hr (rfl) dX1_mixSeams_36 hlocks
      · skip
        refine lv_lload_n hx hb dX1_mixSeams_16 rfl (lv_at hl 1 rfl) ?_
        refine lv_aload_n hx hb dX1_mixSeams_17 rfl (lv_at hl 2 rfl) ?_
        refine va_get (D := G) (ci := 1) (v := .ref qP3) (C := RX1) (T := TX1) (N := 6) hx hb hts (fun _ h => List.mem_cons_of_mem _ (List.mem_append_right _ h)) hown hK.1 hP 0 rfl rfl 3 (by decide) (hts (.fieldLink RX1 18 "TailorHouse$Pattern" "joins" "[I") (List.mem_of_getElem? (i := 2) rfl)) (fun _ h9 => h9) rfl dX1_mixSeams_18 ?_
        refine lv_iload hx hb dX1_mixSeams_21 (lv_at hl 0 rfl) ?_
        refine kx_ialdN hx hb hK.1 hP 3 rfl rfl i (by omega) (by decide) dX1_mixSeams_23 ?_
        refine lv_i2l hx hb dX1_mixSeams_24 rfl ?_
        refine kx_rl (va_runSN (As := [.long (kXS jn i hh), .long ((nI (jn i)).toInt64)]) (rest := []) ⟨hx, hb, hml, hown, hts⟩ (c_X5_mix l (kXS jn i hh) ((nI (jn i)).toInt64)) ⟨va_cnB 2 hts gX1_mixSeams_X5_mix_n77 rfl rfl rfl (hK.2 _ (List.mem_of_getElem? (i := 25) rfl)) (hts (.initialized RX5) (List.mem_of_getElem? (i := 4) rfl)) (by decide +kernel) ⟨(Nat.le_of_ble_eq_true rfl), (Nat.le_of_ble_eq_true rfl)⟩, (hts (.static yX5_mix) (List.mem_of_getElem? (i := 3) rfl)), trivial⟩ kx_preS rfl rfl hl.1 rfl (lv_room (Nat.le_of_ble_eq_true rfl)) dX1_mixSeams_25 ⟨Nat.zero_le _, Nat.zero_le _⟩) ?_
        refine lv_lstore_n (lv' := [(3, .long (kmix (kXS jn i hh) ((nI (jn i)).toInt64))), (5, .int (nI i)), (0, .ref qP), (1, .long hh)]) hx hb dX1_mixSeams_28 rfl hl (by decide) rfl (fun ls hl => ?_)
        refine lv_iinc (v := nI (i + 1)) (lv' := [(5, .int (nI (i + 1))), (3, .long (kmix (kXS jn i hh) ((nI (jn i)).toInt64))), (0, .ref qP), (1, .long hh)]) hx hb dX1_mixSeams_29 hl (k := 1) rfl (nI_1 i) (by decide) rfl (fun ls hl => ?_)
        refine lv_goto (tgt := 5) hx hb dX1_mixSeams_32 (by decide) ?_
        exact ih_1 (i + 1) (kmix (kXS jn i hh) ((nI (jn i)).toInt64)) (i + 1) (by omega) (rfl) rfl ls (lv_sub hl [0, 1, 2, 3] rfl) (by omega)
  exact lab_5_1 ((sms * 4 - 0) + 1) 0 hh 0 (by omega) (rfl) rfl ls (lv_sub hl [0, 1, 2, 3] rfl) (Nat.lt_succ_self _)
