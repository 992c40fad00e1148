/-! the reference's lengths -/
def mSq (xx yy cor : Nat → Int32) (sn : Nat → Nat) (k i : Nat) : Int64 :=
  100 * ((xx (cor (8 * k + kNx (sn k) i)).toNatClampNeg - xx (cor (8 * k + i)).toNatClampNeg).toInt64 * (xx (cor (8 * k + kNx (sn k) i)).toNatClampNeg - xx (cor (8 * k + i)).toNatClampNeg).toInt64 + (yy (cor (8 * k + kNx (sn k) i)).toNatClampNeg - yy (cor (8 * k + i)).toNatClampNeg).toInt64 * (yy (cor (8 * k + kNx (sn k) i)).toNatClampNeg - yy (cor (8 * k + i)).toNatClampNeg).toInt64)
def mBs (sq : Int64) : Nat → Nat → Nat → Nat
  | 0, lo, _ => lo
  | n + 1, lo, hi => if hi - lo ≤ 1 then lo else if lN ((lo + hi) / 2) * lN ((lo + hi) / 2) ≤ sq then mBs sq n ((lo + hi) / 2) hi else mBs sq n lo ((lo + hi) / 2)
def mLen (xx yy cor : Nat → Int32) (sn : Nat → Nat) (k i : Nat) : Int32 := nI (mBs (mSq xx yy cor sn k i) 31 0 2000000000)
def mBd (n lo hi : Nat) : Prop := lo < hi ∧ hi ≤ 2000000000 ∧ hi - lo ≤ 2 ^ n
theorem mBd_0 : mBd 31 0 2000000000 := ⟨by omega, by omega, by decide⟩
theorem mB_sub {n lo hi : Nat} (h : mBd n lo hi) : lN hi - lN lo = lN (hi - lo) := lN_sub (by have := h.1; omega)
theorem mB_gt {n lo hi : Nat} (h : mBd n lo hi) (c : 1 < lN hi - lN lo) : 1 < hi - lo := by
  rw [mB_sub h, show (1 : Int64) = lN 1 from rfl] at c
  exact (lN_lt (by decide) (by have := h.2.1; omega)).mp c
theorem mB_le {n lo hi : Nat} (h : mBd n lo hi) (c : lN hi - lN lo ≤ 1) : hi - lo ≤ 1 := by
  rw [mB_sub h, show (1 : Int64) = lN 1 from rfl] at c
  exact (lN_le (by have := h.2.1; omega) (by decide)).mp c
theorem mB_mid {n lo hi : Nat} (h : mBd n lo hi) : (lN lo + lN hi) / 2 = lN ((lo + hi) / 2) := by
  have h1 := h.1
  have h2 := h.2.1
  rw [lN_add, show (2 : Int64) = lN 2 from rfl, pk_lDiv (by omega) (by decide) (by decide)]
theorem mBd_m {n lo hi : Nat} (h : mBd n lo hi) (c : 1 < hi - lo) : lo < (lo + hi) / 2 ∧ (lo + hi) / 2 < hi := by omega
theorem mBd_p {n lo hi : Nat} (h : mBd n lo hi) (c : 1 < hi - lo) : ∃ k, n = k + 1 := by
  cases n with
  | zero => have := h.2.2; simp at this; omega
  | succ k => exact ⟨k, rfl⟩
theorem mBd_l {n lo hi : Nat} (h : mBd n lo hi) (c : 1 < hi - lo) : mBd (n - 1) ((lo + hi) / 2) hi := by
  obtain ⟨k, rfl⟩ := mBd_p h c
  have h3 := h.2.2
  rw [Nat.pow_succ] at h3
  have h1 := h.1
  have h2 := h.2.1
  exact ⟨by omega, h2, by show hi - (lo + hi) / 2 ≤ 2 ^ k; omega⟩
theorem mBd_r {n lo hi : Nat} (h : mBd n lo hi) (c : 1 < hi - lo) : mBd (n - 1) lo ((lo + hi) / 2) := by
  obtain ⟨k, rfl⟩ := mBd_p h c
  have h3 := h.2.2
  rw [Nat.pow_succ] at h3
  have h1 := h.1
  have h2 := h.2.1
  exact ⟨by omega, by omega, by show (lo + hi) / 2 - lo ≤ 2 ^ k; omega⟩
theorem mBs_l {sq : Int64} {n lo hi : Nat} (h : mBd n lo hi) (c : 1 < hi - lo) (q : lN ((lo + hi) / 2) * lN ((lo + hi) / 2) ≤ sq) : mBs sq n lo hi = mBs sq (n - 1) ((lo + hi) / 2) hi := by
  obtain ⟨k, rfl⟩ := mBd_p h c
  show (if hi - lo ≤ 1 then lo else _) = _
  rw [if_neg (by omega), if_pos q]
  rfl
theorem mBs_r {sq : Int64} {n lo hi : Nat} (h : mBd n lo hi) (c : 1 < hi - lo) (q : sq < lN ((lo + hi) / 2) * lN ((lo + hi) / 2)) : mBs sq n lo hi = mBs sq (n - 1) lo ((lo + hi) / 2) := by
  obtain ⟨k, rfl⟩ := mBd_p h c
  show (if hi - lo ≤ 1 then lo else _) = _
  rw [if_neg (by omega), if_neg (Int64.not_le.mpr q)]
  rfl
theorem mBs_e {sq : Int64} {n lo hi : Nat} (h : mBd n lo hi) (c : hi - lo ≤ 1) : mBs sq n lo hi = lo := by
  cases n with
  | zero => rfl
  | succ k =>
    show (if hi - lo ≤ 1 then lo else _) = _
    rw [if_pos c]
theorem kx_nx {i n : Nat} (h : i < n) (hn : n ≤ 8) : nI (i + 1) - nI (i + 1) / nI n * nI n = nI (kNx n i) := by
  rw [pk_rem (by omega) (by omega) (by omega)]
  congr 1
  unfold kNx
  by_cases h1 : i + 1 < n
  · rw [if_pos h1, Nat.mod_eq_of_lt h1]
  · rw [if_neg h1, show i + 1 = n by omega, Nat.mod_self]
section KXD
variable {p : Program} {l : Launch} {e : Env} {R : Room} {s : State} {m : MethodId} {args : Array Value} {below : List Frame} {meth : Method} {c : Code} {H : Heap} {locs : List Loc} {cells slots : Nat} {Q : State → Prop}
variable {pc : Nat} {ls : Array Slot} {rest : List Value}
theorem kx_topl {x y : Int64} (h : x = y) (k : W p l e R s m args below meth c H locs cells slots Q (F0 m pc ls (.long y :: rest))) : W p l e R s m args below meth c H locs cells slots Q (F0 m pc ls (.long x :: rest)) := by rw [h]; exact k
end KXD
abbrev rm_X6_lengthOf : Room := { frames := 0, cells := 0, slots := 0, locals := 0 }
set_option maxHeartbeats 4000000 in
set_option maxRecDepth 100000 in
theorem c_X6_lengthOf (l : Launch) (G : va_G) (cI cZ : ClassId) (qM : Nat) (qM1 : Nat) (qM2 : Nat) (qM3 : Nat) (qM4 : Nat) (qM5 : Nat) (qM6 : Nat) (qM7 : Nat) (qM8 : Nat) (qM9 : Nat) (qM10 : Nat) (qM11 : Nat) (qM12 : Nat) (qM13 : Nat) (hd : Nat → Int32) (bd : Nat → Int32) (ms : Nat → Int32) (dy : Nat → Int32) (vl : Nat → Int32) (hbt : Nat → Int32) (k0 : Nat → Int32) (k1 : Nat → Int32) (k2 : Nat → Int32) (k3 : Nat → Int32) (k4 : Nat → Int32) (sn : Nat → Nat) (cor : Nat → Int32) (jn : Nat → Nat) (cu : Nat → Nat) (se : Nat → Nat) (fi : Nat → Nat) (pr : Nat → Nat) (xx : Nat → Int32) (yy : Nat → Int32) (wn : Nat → Nat) (hn : Nat → Nat) (on : Nat → Nat) (be : Nat → Nat) (told : Nat) (pts : Nat) (pcs : Nat) (sms : Nat) (wd : Nat) (ck : Nat) (nc : Nat) (lt : Nat) (en : Nat) (bl : Nat) (bn : Nat) (kk : Nat) (i : Nat) (hpc : pcs ≤ 7) (hs8 : ∀ k, k < pcs → sn k ≤ 8) (hco : ∀ k i, k < pcs → i < sn k → vp_in (cor (k * 8 + i)) 20) (hco2 : ∀ k i, k < pcs → i < sn k → vp_in (cor (8 * k + i)) 20) (hk : kk < pcs) (hi : i < sn kk) : Met l yX6_lengthOf wsX6_lengthOf rm_X6_lengthOf (kx_Pr G cI cZ [(qM, .inr (6, [.int (nI told), .ref qM1, .ref qM2, .int (nI pts), .ref qM3, .int (nI pcs), .ref qM4, .ref qM5, .int (nI sms), .ref qM6, .int (nI wd), .int (nI ck), .int (nI nc), .ref qM7, .ref qM8, .ref qM9, .ref qM10, .ref qM11, .ref qM12, .ref qM13, .int (nI lt), .int (nI en), .int (nI bl), .int (nI bn)])), (qM1, .inl (cI, 200, .inl (il5 hd bd ms dy vl))), (qM2, .inl (cI, 24, .inl hbt)), (qM3, .inl (cI, 100, .inl (il5 k0 k1 k2 k3 k4))), (qM4, .inl (cI, 7, .inl (fun k => nI (sn k)))), (qM5, .inl (cI, 56, .inl cor)), (qM6, .inl (cI, 40, .inl (fun k => nI (jn k)))), (qM7, .inl (cI, 24, .inl (fun k => nI (i4 cu se fi pr k)))), (qM8, .inl (cI, 20, .inl xx)), (qM9, .inl (cI, 20, .inl yy)), (qM10, .inl (cI, 7, .inl (fun k => nI (wn k)))), (qM11, .inl (cI, 7, .inl (fun k => nI (hn k)))), (qM12, .inl (cI, 7, .inl (fun k => nI (on k)))), (qM13, .inl (cI, 7, .inl (fun k => nI (be k))))] [.ref qM, .int (nI kk), .int (nI i)]) (QcRead (mLen xx yy cor sn kk i)) 0 0 (fun _ => False) := by
  refine Met.ofW (cc := cX6_lengthOf) (maxL := 17) (ret := (some .int)) (by decide) rfl ?_
  intro p e s m args below meth c s₁ B hml hv
  obtain ⟨rfl, hP, hK⟩ := hv
  have hx := B.exec
  have hb := B.bytes
  have hr := B.returns
  have hts := atoms_spec (ws := wsX6_lengthOf) B.pre
  have hown : s.vm.findClass RX6 = some m.cls := findClass_of_methodNamed B.named
  have hlocks := B.notSynchronized
  have hl := lv_entry ([.ref qM, .int (nI kk), .int (nI i)]) (n := 17) (Nat.le_of_ble_eq_true rfl)
  rw [lg_entry_eq]
  generalize (lg_sl ([.ref qM, .int (nI kk), .int (nI i)]) ++ List.replicate (17 - (lg_sl ([.ref qM, .int (nI kk), .int (nI i)])).length) Slot.unset).toArray = ls at hl ⊢
  have hl : lv_has ls 17 [(0, .ref qM), (1, .int (nI kk)), (2, .int (nI i))] := hl
  refine lv_aload_n hx hb dX6_lengthOf_0 rfl (lv_at hl 0 rfl) ?_
  refine va_get (D := G) (ci := 6) (v := .ref qM5) (C := RX6) (T := TX6) (N := 24) hx hb hts (fun _ h => List.mem_cons_of_mem _ (List.mem_append_right _ h)) hown hK.1 hP 0 rfl rfl 7 (by decide) (hts (.fieldLink RX6 22 "TailorHouseModel" "row" "[I") (List.mem_of_getElem? (i := 1) rfl)) (fun _ h9 => h9) rfl dX6_lengthOf_1 ?_
  refine lv_bipush (v := 8) hx hb dX6_lengthOf_4 (by decide) ?_
  refine lv_iload_n hx hb dX6_lengthOf_6 rfl (lv_at hl 1 rfl) ?_
  refine kx_imulN hx hb 8 kk dX6_lengthOf_7 ?_
  refine lv_iload_n hx hb dX6_lengthOf_8 rfl (lv_at hl 2 rfl) ?_
  refine kx_iaddN hx hb (8 * kk) i dX6_lengthOf_9 ?_
  refine kx_ialdN hx hb hK.1 hP 5 rfl rfl ((8 * kk) + i) (by have h8 := hs8 kk hk; omega) (by decide) dX6_lengthOf_10 ?_
  refine lv_istore_n (lv' := [(3, .int (cor ((8 * kk) + i))), (0, .ref qM), (1, .int (nI kk)), (2, .int (nI i))]) hx hb dX6_lengthOf_11 rfl hl (by decide) rfl (fun ls hl => ?_)
  refine lv_aload_n hx hb dX6_lengthOf_12 rfl (lv_at hl 1 rfl) ?_
  refine va_get (D := G) (ci := 6) (v := .ref qM5) (C := RX6) (T := TX6) (N := 24) hx hb hts (fun _ h => List.mem_cons_of_mem _ (List.mem_append_right _ h)) hown hK.1 hP 0 rfl rfl 7 (by decide) (hts (.fieldLink RX6 22 "TailorHouseModel" "row" "[I") (List.mem_of_getElem? (i := 1) rfl)) (fun _ h9 => h9) rfl dX6_lengthOf_13 ?_
  refine lv_bipush (v := 8) hx hb dX6_lengthOf_16 (by decide) ?_
  refine lv_iload_n hx hb dX6_lengthOf_18 rfl (lv_at hl 2 rfl) ?_
  refine kx_imulN hx hb 8 kk dX6_lengthOf_19 ?_
  refine lv_iload_n hx hb dX6_lengthOf_20 rfl (lv_at hl 3 rfl) ?_
  refine lv_iconst (v := 1) hx hb dX6_lengthOf_21 (by decide) ?_
  refine kx_iaddN hx hb i 1 dX6_lengthOf_22 ?_
  refine lv_aload_n hx hb dX6_lengthOf_23 rfl (lv_at hl 1 rfl) ?_
  refine va_get (D := G) (ci := 6) (v := .ref qM4) (C := RX6) (T := TX6) (N := 24) hx hb hts (fun _ h => List.mem_cons_of_mem _ (List.mem_append_right _ h)) hown hK.1 hP 0 rfl rfl 6 (by decide) (hts (.fieldLink RX6 19 "TailorHouseModel" "many" "[I") (List.mem_of_getElem? (i := 2) rfl)) (fun _ h9 => h9) rfl dX6_lengthOf_24 ?_
  refine lv_iload_n hx hb dX6_lengthOf_27 rfl (lv_at hl 2 rfl) ?_
  refine kx_ialdN hx hb hK.1 hP 4 rfl rfl kk (by omega) (by decide) dX6_lengthOf_28 ?_
  refine lv_irem hx hb dX6_lengthOf_29 (nI_ne0 (by omega) (by have h8 := hs8 kk hk; omega)) ?_
  refine kx_top (y := nI (kNx (sn kk) i)) (kx_nx hi (hs8 kk hk)) ?_
  refine kx_iaddN hx hb (8 * kk) (kNx (sn kk) i) dX6_lengthOf_30 ?_
  refine kx_ialdN hx hb hK.1 hP 5 rfl rfl ((8 * kk) + (kNx (sn kk) i)) (by have h8 := hs8 kk hk; have h9 := kNx_lt hi; omega) (by decide) dX6_lengthOf_31 ?_
  refine lv_istore (lv' := [(4, .int (cor ((8 * kk) + (kNx (sn kk) i)))), (3, .int (cor ((8 * kk) + i))), (0, .ref qM), (1, .int (nI kk)), (2, .int (nI i))]) hx hb dX6_lengthOf_32 hl (by decide) rfl (fun ls hl => ?_)
  refine lv_aload_n hx hb dX6_lengthOf_34 rfl (lv_at hl 2 rfl) ?_
  refine va_get (D := G) (ci := 6) (v := .ref qM8) (C := RX6) (T := TX6) (N := 24) hx hb hts (fun _ h => List.mem_cons_of_mem _ (List.mem_append_right _ h)) hown hK.1 hP 0 rfl rfl 14 (by decide) (hts (.fieldLink RX6 38 "TailorHouseModel" "px" "[I") (List.mem_of_getElem? (i := 3) rfl)) (fun _ h9 => h9) rfl dX6_lengthOf_35 ?_
  refine lv_iload hx hb dX6_lengthOf_38 (lv_at hl 0 rfl) ?_
  refine va_iald hx hb hK.1 hP 8 0 rfl rfl (hco2 kk (kNx (sn kk) i) hk (kNx_lt hi)) dX6_lengthOf_40 ?_
  refine lv_aload_n hx hb dX6_lengthOf_41 rfl (lv_at hl 2 rfl) ?_
  refine va_get (D := G) (ci := 6) (v := .ref qM8) (C := RX6) (T := TX6) (N := 24) hx hb hts (fun _ h => List.mem_cons_of_mem _ (List.mem_append_right _ h)) hown hK.1 hP 0 rfl rfl 14 (by decide) (hts (.fieldLink RX6 38 "TailorHouseModel" "px" "[I") (List.mem_of_getElem? (i := 3) rfl)) (fun _ h9 => h9) rfl dX6_lengthOf_42 ?_
  refine lv_iload_n hx hb dX6_lengthOf_45 rfl (lv_at hl 1 rfl) ?_
  refine va_iald hx hb hK.1 hP 8 0 rfl rfl (hco2 kk i hk hi) dX6_lengthOf_46 ?_
  refine lv_isub hx hb dX6_lengthOf_47 ?_
  refine lv_i2l hx hb dX6_lengthOf_48 rfl ?_
  refine lv_lstore (lv' := [(5, .long (((xx (cor ((8 * kk) + (kNx (sn kk) i))).toNatClampNeg) - (xx (cor ((8 * kk) + i)).toNatClampNeg)).toInt64)), (4, .int (cor ((8 * kk) + (kNx (sn kk) i)))), (3, .int (cor ((8 * kk) + i))), (0, .ref qM), (1, .int (nI kk)), (2, .int (nI i))]) hx hb dX6_lengthOf_49 hl (by decide) rfl (fun ls hl => ?_)
  refine lv_aload_n hx hb dX6_lengthOf_51 rfl (lv_at hl 3 rfl) ?_
  refine va_get (D := G) (ci := 6) (v := .ref qM9) (C := RX6) (T := TX6) (N := 24) hx hb hts (fun _ h => List.mem_cons_of_mem _ (List.mem_append_right _ h)) hown hK.1 hP 0 rfl rfl 15 (by decide) (hts (.fieldLink RX6 41 "TailorHouseModel" "py" "[I") (List.mem_of_getElem? (i := 4) rfl)) (fun _ h9 => h9) rfl dX6_lengthOf_52 ?_
  refine lv_iload hx hb dX6_lengthOf_55 (lv_at hl 1 rfl) ?_
  refine va_iald hx hb hK.1 hP 9 0 rfl rfl (hco2 kk (kNx (sn kk) i) hk (kNx_lt hi)) dX6_lengthOf_57 ?_
  refine lv_aload_n hx hb dX6_lengthOf_58 rfl (lv_at hl 3 rfl) ?_
  refine va_get (D := G) (ci := 6) (v := .ref qM9) (C := RX6) (T := TX6) (N := 24) hx hb hts (fun _ h => List.mem_cons_of_mem _ (List.mem_append_right _ h)) hown hK.1 hP 0 rfl rfl 15 (by decide) (hts (.fieldLink RX6 41 "TailorHouseModel" "py" "[I") (List.mem_of_getElem? (i := 4) rfl)) (fun _ h9 => h9) rfl dX6_lengthOf_59 ?_
  refine lv_iload_n hx hb dX6_lengthOf_62 rfl (lv_at hl 2 rfl) ?_
  refine va_iald hx hb hK.1 hP 9 0 rfl rfl (hco2 kk i hk hi) dX6_lengthOf_63 ?_
  refine lv_isub hx hb dX6_lengthOf_64 ?_
  refine lv_i2l hx hb dX6_lengthOf_65 rfl ?_
  refine lv_lstore (lv' := [(7, .long (((yy (cor ((8 * kk) + (kNx (sn kk) i))).toNatClampNeg) - (yy (cor ((8 * kk) + i)).toNatClampNeg)).toInt64)), (5, .long (((xx (cor ((8 * kk) + (kNx (sn kk) i))).toNatClampNeg) - (xx (cor ((8 * kk) + i)).toNatClampNeg)).toInt64)), (4, .int (cor ((8 * kk) + (kNx (sn kk) i)))), (3, .int (cor ((8 * kk) + i))), (0, .ref qM), (1, .int (nI kk)), (2, .int (nI i))]) hx hb dX6_lengthOf_66 hl (by decide) rfl (fun ls hl => ?_)
  refine lv_ldc2 (v := 100) hx hb hown (hts (.constantLong RX6 108 (100)) (List.mem_of_getElem? (i := 5) rfl)) dX6_lengthOf_68 ?_
  refine lv_lload hx hb dX6_lengthOf_71 (lv_at hl 1 rfl) ?_
  refine lv_lload hx hb dX6_lengthOf_73 (lv_at hl 1 rfl) ?_
  refine lv_lmul hx hb dX6_lengthOf_75 ?_
  refine lv_lload hx hb dX6_lengthOf_76 (lv_at hl 0 rfl) ?_
  refine lv_lload hx hb dX6_lengthOf_78 (lv_at hl 0 rfl) ?_
  refine lv_lmul hx hb dX6_lengthOf_80 ?_
  refine lv_ladd hx hb dX6_lengthOf_81 ?_
  refine lv_lmul hx hb dX6_lengthOf_82 ?_
  refine lv_lstore (lv' := [(9, .long (100 * (((((xx (cor ((8 * kk) + (kNx (sn kk) i))).toNatClampNeg) - (xx (cor ((8 * kk) + i)).toNatClampNeg)).toInt64) * (((xx (cor ((8 * kk) + (kNx (sn kk) i))).toNatClampNeg) - (xx (cor ((8 * kk) + i)).toNatClampNeg)).toInt64)) + ((((yy (cor ((8 * kk) + (kNx (sn kk) i))).toNatClampNeg) - (yy (cor ((8 * kk) + i)).toNatClampNeg)).toInt64) * (((yy (cor ((8 * kk) + (kNx (sn kk) i))).toNatClampNeg) - (yy (cor ((8 * kk) + i)).toNatClampNeg)).toInt64))))), (7, .long (((yy (cor ((8 * kk) + (kNx (sn kk) i))).toNatClampNeg) - (yy (cor ((8 * kk) + i)).toNatClampNeg)).toInt64)), (5, .long (((xx (cor ((8 * kk) + (kNx (sn kk) i))).toNatClampNeg) - (xx (cor ((8 * kk) + i)).toNatClampNeg)).toInt64)), (4, .int (cor ((8 * kk) + (kNx (sn kk) i)))), (3, .int (cor ((8 * kk) + i))), (0, .ref qM), (1, .int (nI kk)), (2, .int (nI i))]) hx hb dX6_lengthOf_83 hl (by decide) rfl (fun ls hl => ?_)
  refine lv_lconst (v := 0) hx hb dX6_lengthOf_85 (by decide) ?_
  refine lv_lstore (lv' := [(11, .long 0), (9, .long (100 * (((((xx (cor ((8 * kk) + (kNx (sn kk) i))).toNatClampNeg) - (xx (cor ((8 * kk) + i)).toNatClampNeg)).toInt64) * (((xx (cor ((8 * kk) + (kNx (sn kk) i))).toNatClampNeg) - (xx (cor ((8 * kk) + i)).toNatClampNeg)).toInt64)) + ((((yy (cor ((8 * kk) + (kNx (sn kk) i))).toNatClampNeg) - (yy (cor ((8 * kk) + i)).toNatClampNeg)).toInt64) * (((yy (cor ((8 * kk) + (kNx (sn kk) i))).toNatClampNeg) - (yy (cor ((8 * kk) + i)).toNatClampNeg)).toInt64))))), (7, .long (((yy (cor ((8 * kk) + (kNx (sn kk) i))).toNatClampNeg) - (yy (cor ((8 * kk) + i)).toNatClampNeg)).toInt64)), (5, .long (((xx (cor ((8 * kk) + (kNx (sn kk) i))).toNatClampNeg) - (xx (cor ((8 * kk) + i)).toNatClampNeg)).toInt64)), (4, .int (cor ((8 * kk) + (kNx (sn kk) i)))), (3, .int (cor ((8 * kk) + i))), (0, .ref qM), (1, .int (nI kk)), (2, .int (nI i))]) hx hb dX6_lengthOf_86 hl (by decide) rfl (fun ls hl => ?_)
  refine lv_ldc2 (v := 2000000000) hx hb hown (hts (.constantLong RX6 110 (2000000000)) (List.mem_of_getElem? (i := 6) rfl)) dX6_lengthOf_88 ?_
  refine lv_lstore (lv' := [(13, .long 2000000000), (11, .long 0), (9, .long (100 * (((((xx (cor ((8 * kk) + (kNx (sn kk) i))).toNatClampNeg) - (xx (cor ((8 * kk) + i)).toNatClampNeg)).toInt64) * (((xx (cor ((8 * kk) + (kNx (sn kk) i))).toNatClampNeg) - (xx (cor ((8 * kk) + i)).toNatClampNeg)).toInt64)) + ((((yy (cor ((8 * kk) + (kNx (sn kk) i))).toNatClampNeg) - (yy (cor ((8 * kk) + i)).toNatClampNeg)).toInt64) * (((yy (cor ((8 * kk) + (kNx (sn kk) i))).toNatClampNeg) - (yy (cor ((8 * kk) + i)).toNatClampNeg)).toInt64))))), (7, .long (((yy (cor ((8 * kk) + (kNx (sn kk) i))).toNatClampNeg) - (yy (cor ((8 * kk) + i)).toNatClampNeg)).toInt64)), (5, .long (((xx (cor ((8 * kk) + (kNx (sn kk) i))).toNatClampNeg) - (xx (cor ((8 * kk) + i)).toNatClampNeg)).toInt64)), (4, .int (cor ((8 * kk) + (kNx (sn kk) i)))), (3, .int (cor ((8 * kk) + i))), (0, .ref qM), (1, .int (nI kk)), (2, .int (nI i))]) hx hb dX6_lengthOf_91 hl (by decide) rfl (fun ls hl => ?_)
  have lab_93_1 : ∀ (nn_1 : Nat) (nn : Nat) (lo : Nat) (hi2 : Nat) (z1_0 : Int64) (z1_1 : Int64) (hlh : mBd nn lo hi2) (hbs : mBs (mSq xx yy cor sn kk i) nn lo hi2 = mBs (mSq xx yy cor sn kk i) 31 0 2000000000) (ez1_0 : (lN lo) = z1_0) (ez1_1 : (lN hi2) = z1_1) (ls : Array Slot) (hl : lv_has ls 17 [(13, .long z1_1), (11, .long z1_0), (9, .long (100 * (((((xx (cor ((8 * kk) + (kNx (sn kk) i))).toNatClampNeg) - (xx (cor ((8 * kk) + i)).toNatClampNeg)).toInt64) * (((xx (cor ((8 * kk) + (kNx (sn kk) i))).toNatClampNeg) - (xx (cor ((8 * kk) + i)).toNatClampNeg)).toInt64)) + ((((yy (cor ((8 * kk) + (kNx (sn kk) i))).toNatClampNeg) - (yy (cor ((8 * kk) + i)).toNatClampNeg)).toInt64) * (((yy (cor ((8 * kk) + (kNx (sn kk) i))).toNatClampNeg) - (yy (cor ((8 * kk) + i)).toNatClampNeg)).toInt64))))), (7, .long (((yy (cor ((8 * kk) + (kNx (sn kk) i))).toNatClampNeg) - (yy (cor ((8 * kk) + i)).toNatClampNeg)).toInt64)), (5, .long (((xx (cor ((8 * kk) + (kNx (sn kk) i))).toNatClampNeg) - (xx (cor ((8 * kk) + i)).toNatClampNeg)).toInt64)), (4, .int (cor ((8 * kk) + (kNx (sn kk) i)))), (3, .int (cor ((8 * kk) + i))), (0, .ref qM), (1, .int (nI kk)), (2, .int (nI i))]), (hi2 - lo) < nn_1 → W p l e (headSpec wsX6_lengthOf rm_X6_lengthOf).room s m ([.ref qM, .int (nI kk), .int (nI i)] : List Value).toArray below meth c s.heap [] 0 0 (MQ below (QcRead (mLen xx yy cor sn kk i)) ([.ref qM, .int (nI kk), .int (nI i)] : List Value).toArray s 0 0 (fun _ => False)) (F0 m 93 ls []) := by
    intro nn_1
    induction nn_1 with
    | zero => intro nn lo hi2 z1_0 z1_1 hlh hbs ez1_0 ez1_1 ls hl hn; exact absurd hn (Nat.not_lt_zero _)
    | succ nn_1 ih_1 =>
      intro nn lo hi2 z1_0 z1_1 hlh hbs ez1_0 ez1_1 ls hl hn_1
      subst ez1_0
      subst ez1_1
      refine lv_lload hx hb dX6_lengthOf_93 (lv_at hl 0 rfl) ?_
      refine lv_lload hx hb dX6_lengthOf_95 (lv_at hl 1 rfl) ?_
      refine lv_lsub hx hb dX6_lengthOf_97 ?_
      refine lv_lconst (v := 1) hx hb dX6_lengthOf_98 (by decide) ?_
      refine W.lcmp hx hb dX6_lengthOf_99 ?_
      refine kx_lle hx hb (tgt := 139) dX6_lengthOf_100 (by decide) (fun c_2 => ?_) (fun c_2 => ?_)
      · skip
        rw [mBs_e hlh (mB_le hlh c_2)] at hbs
        refine lv_lload hx hb dX6_lengthOf_139 (lv_at hl 1 rfl) ?_
        refine lv_l2i hx hb dX6_lengthOf_141 rfl ?_
        refine kx_top (y := nI lo) (lN_i lo) ?_
        exact kx_iret hx hb hr (v := (nI lo)) (congrArg nI hbs) dX6_lengthOf_142 hlocks
      · skip
        have hgt := mB_gt hlh c_2
        have hmid := mBd_m hlh hgt
        refine lv_lload hx hb dX6_lengthOf_103 (lv_at hl 1 rfl) ?_
        refine lv_lload hx hb dX6_lengthOf_105 (lv_at hl 0 rfl) ?_
        refine lv_ladd hx hb dX6_lengthOf_107 ?_
        refine lv_ldc2 (v := 2) hx hb hown (hts (.constantLong RX6 112 (2)) (List.mem_of_getElem? (i := 7) rfl)) dX6_lengthOf_108 ?_
        refine lv_ldiv hx hb dX6_lengthOf_111 (by decide) ?_
        refine kx_topl (y := lN ((lo + hi2) / 2)) (mB_mid hlh) ?_
        refine lv_lstore (lv' := [(15, .long (lN ((lo + hi2) / 2))), (13, .long (lN hi2)), (11, .long (lN lo)), (9, .long (100 * (((((xx (cor ((8 * kk) + (kNx (sn kk) i))).toNatClampNeg) - (xx (cor ((8 * kk) + i)).toNatClampNeg)).toInt64) * (((xx (cor ((8 * kk) + (kNx (sn kk) i))).toNatClampNeg) - (xx (cor ((8 * kk) + i)).toNatClampNeg)).toInt64)) + ((((yy (cor ((8 * kk) + (kNx (sn kk) i))).toNatClampNeg) - (yy (cor ((8 * kk) + i)).toNatClampNeg)).toInt64) * (((yy (cor ((8 * kk) + (kNx (sn kk) i))).toNatClampNeg) - (yy (cor ((8 * kk) + i)).toNatClampNeg)).toInt64))))), (7, .long (((yy (cor ((8 * kk) + (kNx (sn kk) i))).toNatClampNeg) - (yy (cor ((8 * kk) + i)).toNatClampNeg)).toInt64)), (5, .long (((xx (cor ((8 * kk) + (kNx (sn kk) i))).toNatClampNeg) - (xx (cor ((8 * kk) + i)).toNatClampNeg)).toInt64)), (4, .int (cor ((8 * kk) + (kNx (sn kk) i)))), (3, .int (cor ((8 * kk) + i))), (0, .ref qM), (1, .int (nI kk)), (2, .int (nI i))]) hx hb dX6_lengthOf_112 hl (by decide) rfl (fun ls hl => ?_)
        refine lv_lload hx hb dX6_lengthOf_114 (lv_at hl 0 rfl) ?_
        refine lv_lload hx hb dX6_lengthOf_116 (lv_at hl 0 rfl) ?_
        refine lv_lmul hx hb dX6_lengthOf_118 ?_
        refine lv_lload hx hb dX6_lengthOf_119 (lv_at hl 3 rfl) ?_
        refine W.lcmp hx hb dX6_lengthOf_121 ?_
        refine kx_lgt hx hb (tgt := 132) dX6_lengthOf_122 (by decide) (fun c_3 => ?_) (fun c_3 => ?_)
        · skip
          refine lv_lload hx hb dX6_lengthOf_132 (lv_at hl 0 rfl) ?_
          refine lv_lstore (lv' := [(13, .long (lN ((lo + hi2) / 2))), (15, .long (lN ((lo + hi2) / 2))), (11, .long (lN lo)), (9, .long (100 * (((((xx (cor ((8 * kk) + (kNx (sn kk) i))).toNatClampNeg) - (xx (cor ((8 * kk) + i)).toNatClampNeg)).toInt64) * (((xx (cor ((8 * kk) + (kNx (sn kk) i))).toNatClampNeg) - (xx (cor ((8 * kk) + i)).toNatClampNeg)).toInt64)) + ((((yy (cor ((8 * kk) + (kNx (sn kk) i))).toNatClampNeg) - (yy (cor ((8 * kk) + i)).toNatClampNeg)).toInt64) * (((yy (cor ((8 * kk) + (kNx (sn kk) i))).toNatClampNeg) - (yy (cor ((8 * kk) + i)).toNatClampNeg)).toInt64))))), (7, .long (((yy (cor ((8 * kk) + (kNx (sn kk) i))).toNatClampNeg) - (yy (cor ((8 * kk) + i)).toNatClampNeg)).toInt64)), (5, .long (((xx (cor ((8 * kk) + (kNx (sn kk) i))).toNatClampNeg) - (xx (cor ((8 * kk) + i)).toNatClampNeg)).toInt64)), (4, .int (cor ((8 * kk) + (kNx (sn kk) i)))), (3, .int (cor ((8 * kk) + i))), (0, .ref qM), (1, .int (nI kk)), (2, .int (nI i))]) hx hb dX6_lengthOf_134 hl (by decide) rfl (fun ls hl => ?_)
          refine lv_goto (tgt := 93) hx hb dX6_lengthOf_136 (by decide) ?_
          exact ih_1 (nn - 1) lo ((lo + hi2) / 2) (lN lo) (lN ((lo + hi2) / 2)) (by first | exact mBd_l hlh hgt | exact mBd_r hlh hgt) (by first | exact (mBs_l hlh hgt c_3).symm.trans hbs | exact (mBs_r hlh hgt c_3).symm.trans hbs) rfl rfl ls (lv_sub hl [0, 2, 3, 4, 5, 6, 7, 8, 9, 10] rfl) (by omega)
        · skip
          refine lv_lload hx hb dX6_lengthOf_125 (lv_at hl 0 rfl) ?_
          refine lv_lstore (lv' := [(11, .long (lN ((lo + hi2) / 2))), (15, .long (lN ((lo + hi2) / 2))), (13, .long (lN hi2)), (9, .long (100 * (((((xx (cor ((8 * kk) + (kNx (sn kk) i))).toNatClampNeg) - (xx (cor ((8 * kk) + i)).toNatClampNeg)).toInt64) * (((xx (cor ((8 * kk) + (kNx (sn kk) i))).toNatClampNeg) - (xx (cor ((8 * kk) + i)).toNatClampNeg)).toInt64)) + ((((yy (cor ((8 * kk) + (kNx (sn kk) i))).toNatClampNeg) - (yy (cor ((8 * kk) + i)).toNatClampNeg)).toInt64) * (((yy (cor ((8 * kk) + (kNx (sn kk) i))).toNatClampNeg) - (yy (cor ((8 * kk) + i)).toNatClampNeg)).toInt64))))), (7, .long (((yy (cor ((8 * kk) + (kNx (sn kk) i))).toNatClampNeg) - (yy (cor ((8 * kk) + i)).toNatClampNeg)).toInt64)), (5, .long (((xx (cor ((8 * kk) + (kNx (sn kk) i))).toNatClampNeg) - (xx (cor ((8 * kk) + i)).toNatClampNeg)).toInt64)), (4, .int (cor ((8 * kk) + (kNx (sn kk) i)))), (3, .int (cor ((8 * kk) + i))), (0, .ref qM), (1, .int (nI kk)), (2, .int (nI i))]) hx hb dX6_lengthOf_127 hl (by decide) rfl (fun ls hl => ?_)
          refine lv_goto (tgt := 136) hx hb dX6_lengthOf_129 (by decide) ?_
          refine lv_goto (tgt := 93) hx hb dX6_lengthOf_136 (by decide) ?_
          exact ih_1 (nn - 1) ((lo + hi2) / 2) hi2 (lN ((lo + hi2) / 2)) (lN hi2) (by first | exact mBd_l hlh hgt | exact mBd_r hlh hgt) (by first | exact (mBs_l hlh hgt c_3).symm.trans hbs | exact (mBs_r hlh hgt c_3).symm.trans hbs) rfl rfl ls (lv_sub hl [2, 0, 3, 4, 5, 6, 7, 8, 9, 10] rfl) (by omega)
  exact lab_93_1 ((2000000000 - 0) + 1) 31 0 2000000000 0 2000000000 (mBd_0) (rfl) (rfl) (rfl) ls (lv_sub hl [0, 1, 2, 3, 4, 5, 6, 7, 8, 9] rfl) (Nat.lt_succ_self _)
