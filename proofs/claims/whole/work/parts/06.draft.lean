/-! the draft, as numbers -/
def kPart (ot aa bb bm : Nat → Int32) (p : Nat) : Int32 := kdiv (bm (ot p).toNatClampNeg * aa p) (bb p)
def kPX (kd ba ot aa bb bm xx : Nat → Int32) (p : Nat) : Int32 :=
  if kd p = 0 then aa p else if kd p = 1 then xx (ba p).toNatClampNeg + aa p else if kd p = 2 then xx (ba p).toNatClampNeg + kPart ot aa bb bm p else if kd p = 3 then xx (ba p).toNatClampNeg else kdiv (xx (ba p).toNatClampNeg + xx (ot p).toNatClampNeg) 2
def kPY (kd ba ot aa bb bm yy : Nat → Int32) (p : Nat) : Int32 :=
  if kd p = 0 then bb p else if kd p = 1 then yy (ba p).toNatClampNeg + bb p else if kd p = 2 then yy (ba p).toNatClampNeg else if kd p = 3 then yy (ba p).toNatClampNeg + kPart ot aa bb bm p else kdiv (yy (ba p).toNatClampNeg + yy (ot p).toNatClampNeg) 2
def kXs (kd ba ot aa bb bm xx : Nat → Int32) : Nat → Nat → Int32
  | 0 => xx
  | p + 1 => upd (kXs kd ba ot aa bb bm xx p) p (kPX kd ba ot aa bb bm (kXs kd ba ot aa bb bm xx p) p)
def kYs (kd ba ot aa bb bm yy : Nat → Int32) : Nat → Nat → Int32
  | 0 => yy
  | p + 1 => upd (kYs kd ba ot aa bb bm yy p) p (kPY kd ba ot aa bb bm (kYs kd ba ot aa bb bm yy p) p)
def kBMu (hd bd ms dy vl hbt : Nat → Int32) (told : Nat) (body : Int32) (bm : Nat → Int32) : Nat → Nat → Int32
  | 0 => bm
  | j + 1 => upd (kBMu hd bd ms dy vl hbt told body bm j) j (kLatest hd bd ms dy vl hbt told body (nI j))
abbrev kOnP (kd ba ot : Nat → Int32) (p : Nat) (measure bits : Int32) : Prop :=
  (¬ kd p = 0 ∧ (bits >>> (ba p &&& 31)) &&& 1 = 1) ∨ (kd p = 4 ∧ (bits >>> (ot p &&& 31)) &&& 1 = 1) ∨ (¬ kd p = 0 ∧ ¬ kd p = 1 ∧ ¬ kd p = 4 ∧ ot p = measure)
def kPO (kd ba ot : Nat → Int32) (measure : Int32) : Nat → Int32
  | 0 => 0
  | p + 1 => if kOnP kd ba ot p measure (kPO kd ba ot measure p) then kPO kd ba ot measure p ||| 1 <<< (nI p &&& 31) else kPO kd ba ot measure p
def kMP (xx yy : Nat → Int32) : Nat → Int64 → Int64
  | 0, h => h
  | p + 1, h => kmix (kmix (kMP xx yy p h) (xx p).toInt64) (yy p).toInt64
abbrev rm_X0_has : Room := { frames := 1, cells := 0, slots := 0, locals := 22 }
set_option maxHeartbeats 4000000 in
set_option maxRecDepth 100000 in
theorem c_X0_has (l : Launch) (G : va_G) (cI cZ : ClassId) (qD : Nat) (hT : Nat) (qD1 : Nat) (qD2 : Nat) (qD3 : Nat) (qD4 : Nat) (qD5 : Nat) (qD6 : Nat) (qD7 : Nat) (qD8 : Nat) (kd : Nat → Int32) (ba : Nat → Int32) (ot : Nat → Int32) (aa : Nat → Int32) (bb : Nat → Int32) (bm : Nat → Int32) (xx : Nat → Int32) (yy : Nat → Int32) (pts : Nat) (v : Int32) : Met l yX0_has wsX0_has rm_X0_has (kx_Pr G cI cZ [(qD, .inr (0, [.ref hT, .ref qD1, .ref qD2, .ref qD3, .ref qD4, .ref qD5, .ref qD6, .ref qD7, .ref qD8, .int (nI pts)])), (qD1, .inl (cI, 20, .inl kd)), (qD2, .inl (cI, 20, .inl ba)), (qD3, .inl (cI, 20, .inl ot)), (qD4, .inl (cI, 20, .inl aa)), (qD5, .inl (cI, 20, .inl bb)), (qD6, .inl (cI, 6, .inl bm)), (qD7, .inl (cI, 20, .inl xx)), (qD8, .inl (cI, 20, .inl yy))] [.ref qD, .int v]) (QcRead (kb (0 ≤ v ∧ v ≤ nI pts - 1))) 0 0 (fun _ => False) := by
  refine Met.ofW (cc := cX0_has) (maxL := 2) (ret := (some .boolean)) (by decide) rfl ?_
  intro p e s m args below meth c s₁ B hml hv
  obtain ⟨rfl, hP, hK⟩ := hv
  have hx := B.exec
  have hb := B.bytes
  have hr := B.returns
  have hts := atoms_spec (ws := wsX0_has) B.pre
  have hown : s.vm.findClass RX0 = some m.cls := findClass_of_methodNamed B.named
  have hlocks := B.notSynchronized
  have hl := lv_entry ([.ref qD, .int v]) (n := 2) (Nat.le_of_ble_eq_true rfl)
  rw [lg_entry_eq]
  generalize (lg_sl ([.ref qD, .int v]) ++ List.replicate (2 - (lg_sl ([.ref qD, .int v])).length) Slot.unset).toArray = ls at hl ⊢
  have hl : lv_has ls 2 [(0, .ref qD), (1, .int v)] := hl
  refine lv_iload_n hx hb dX0_has_0 rfl (lv_at hl 1 rfl) ?_
  refine lv_iconst (v := 0) hx hb dX0_has_1 (by decide) ?_
  refine lv_aload_n hx hb dX0_has_2 rfl (lv_at hl 0 rfl) ?_
  refine va_get (D := G) (ci := 0) (v := .int (nI pts)) (C := RX0) (T := TX0) (N := 10) hx hb hts (fun _ h => List.mem_cons_of_mem _ (List.mem_append_right _ h)) hown hK.1 hP 0 rfl rfl 9 (by decide) (hts (.fieldLink RX0 36 "TailorHouse$Draft" "points" "I") (List.mem_of_getElem? (i := 1) rfl)) (fun _ h9 => h9) rfl dX0_has_3 ?_
  refine lv_iconst (v := 1) hx hb dX0_has_6 (by decide) ?_
  refine lv_isub hx hb dX0_has_7 ?_
  refine kx_ri (va_runSN (As := [.int v, .int 0, .int ((nI pts) - 1)]) (rest := []) ⟨hx, hb, hml, hown, hts⟩ (c_X5_within l v 0 ((nI pts) - 1)) ⟨va_cnB 3 hts gX0_has_X5_within_n44 rfl rfl rfl (hK.2 _ (List.mem_of_getElem? (i := 18) rfl)) (hts (.initialized RX5) (List.mem_of_getElem? (i := 3) rfl)) (by decide +kernel) ⟨(Nat.le_of_ble_eq_true rfl), (Nat.le_of_ble_eq_true rfl)⟩, (hts (.static yX5_within) (List.mem_of_getElem? (i := 2) rfl)), trivial⟩ kx_preS rfl rfl hl.1 rfl (lv_room (Nat.le_of_ble_eq_true rfl)) dX0_has_8 ⟨Nat.zero_le _, Nat.zero_le _⟩) ?_
  exact kx_zret hx hb hr (v := (kb (0 ≤ v ∧ v ≤ ((nI pts) - 1)))) (by simp []) dX0_has_11 hlocks
theorem h_X0_addPoint (cI cZ : ClassId) (qD : Nat) (hT : Nat) (qD1 : Nat) (qD2 : Nat) (qD3 : Nat) (qD4 : Nat) (qD5 : Nat) (qD6 : Nat) (qD7 : Nat) (qD8 : Nat) (kd : Nat → Int32) (ba : Nat → Int32) (ot : Nat → Int32) (aa : Nat → Int32) (bb : Nat → Int32) (bm : Nat → Int32) (xx : Nat → Int32) (yy : Nat → Int32) (pts : Nat) : ∀ u, (((fun u : (Nat → Int32) × (Nat → Int32) × (Nat → Int32) × (Nat → Int32) × (Nat → Int32) × Nat => [(qD, .inr (0, [.ref hT, .ref qD1, .ref qD2, .ref qD3, .ref qD4, .ref qD5, .ref qD6, .ref qD7, .ref qD8, .int (nI u.2.2.2.2.2)])), (qD1, .inl (cI, 20, .inl u.1)), (qD2, .inl (cI, 20, .inl u.2.1)), (qD3, .inl (cI, 20, .inl u.2.2.1)), (qD4, .inl (cI, 20, .inl u.2.2.2.1)), (qD5, .inl (cI, 20, .inl u.2.2.2.2.1)), (qD6, .inl (cI, 6, .inl bm)), (qD7, .inl (cI, 20, .inl xx)), (qD8, .inl (cI, 20, .inl yy))]) : ((Nat → Int32) × (Nat → Int32) × (Nat → Int32) × (Nat → Int32) × (Nat → Int32) × Nat) → va_W) u).map Prod.fst = ([(qD, .inr (0, [.ref hT, .ref qD1, .ref qD2, .ref qD3, .ref qD4, .ref qD5, .ref qD6, .ref qD7, .ref qD8, .int (nI pts)])), (qD1, .inl (cI, 20, .inl kd)), (qD2, .inl (cI, 20, .inl ba)), (qD3, .inl (cI, 20, .inl ot)), (qD4, .inl (cI, 20, .inl aa)), (qD5, .inl (cI, 20, .inl bb)), (qD6, .inl (cI, 6, .inl bm)), (qD7, .inl (cI, 20, .inl xx)), (qD8, .inl (cI, 20, .inl yy))] : va_W).map Prod.fst := fun _ => rfl
abbrev rm_X0_addPoint : Room := { frames := 0, cells := 0, slots := 0, locals := 0 }
set_option maxHeartbeats 4000000 in
set_option maxRecDepth 100000 in
theorem c_X0_addPoint (l : Launch) (G : va_G) (cI cZ : ClassId) (qD : Nat) (hT : Nat) (qD1 : Nat) (qD2 : Nat) (qD3 : Nat) (qD4 : Nat) (qD5 : Nat) (qD6 : Nat) (qD7 : Nat) (qD8 : Nat) (kd : Nat → Int32) (ba : Nat → Int32) (ot : Nat → Int32) (aa : Nat → Int32) (bb : Nat → Int32) (bm : Nat → Int32) (xx : Nat → Int32) (yy : Nat → Int32) (pts : Nat) (sz : Nat) (kind : Int32) (base : Int32) (other : Int32) (a : Int32) (b : Int32) (hpo : pts ≤ 20) : Met l yX0_addPoint wsX0_addPoint rm_X0_addPoint (kx_Pw G cI cZ [(qD, .inr (0, [.ref hT, .ref qD1, .ref qD2, .ref qD3, .ref qD4, .ref qD5, .ref qD6, .ref qD7, .ref qD8, .int (nI pts)])), (qD1, .inl (cI, 20, .inl kd)), (qD2, .inl (cI, 20, .inl ba)), (qD3, .inl (cI, 20, .inl ot)), (qD4, .inl (cI, 20, .inl aa)), (qD5, .inl (cI, 20, .inl bb)), (qD6, .inl (cI, 6, .inl bm)), (qD7, .inl (cI, 20, .inl xx)), (qD8, .inl (cI, 20, .inl yy))] sz [.ref qD, .int kind, .int base, .int other, .int a, .int b]) (va_Qi (fun (r : Int32) (u : (Nat → Int32) × (Nat → Int32) × (Nat → Int32) × (Nat → Int32) × (Nat → Int32) × Nat) => if pts < 20 then r = nI pts ∧ u.1 = upd kd pts kind ∧ u.2.1 = upd ba pts base ∧ u.2.2.1 = upd ot pts other ∧ u.2.2.2.1 = upd aa pts a ∧ u.2.2.2.2.1 = upd bb pts b ∧ u.2.2.2.2.2 = pts + 1 else r = -4 ∧ u.1 = kd ∧ u.2.1 = ba ∧ u.2.2.1 = ot ∧ u.2.2.2.1 = aa ∧ u.2.2.2.2.1 = bb ∧ u.2.2.2.2.2 = pts) (fun u t => va_P G vwCl ((fun u : (Nat → Int32) × (Nat → Int32) × (Nat → Int32) × (Nat → Int32) × (Nat → Int32) × Nat => [(qD, .inr (0, [.ref hT, .ref qD1, .ref qD2, .ref qD3, .ref qD4, .ref qD5, .ref qD6, .ref qD7, .ref qD8, .int (nI u.2.2.2.2.2)])), (qD1, .inl (cI, 20, .inl u.1)), (qD2, .inl (cI, 20, .inl u.2.1)), (qD3, .inl (cI, 20, .inl u.2.2.1)), (qD4, .inl (cI, 20, .inl u.2.2.2.1)), (qD5, .inl (cI, 20, .inl u.2.2.2.2.1)), (qD6, .inl (cI, 6, .inl bm)), (qD7, .inl (cI, 20, .inl xx)), (qD8, .inl (cI, 20, .inl yy))]) u) t.heap) (va_A [(qD, .inr (0, [.ref hT, .ref qD1, .ref qD2, .ref qD3, .ref qD4, .ref qD5, .ref qD6, .ref qD7, .ref qD8, .int (nI pts)])), (qD1, .inl (cI, 20, .inl kd)), (qD2, .inl (cI, 20, .inl ba)), (qD3, .inl (cI, 20, .inl ot)), (qD4, .inl (cI, 20, .inl aa)), (qD5, .inl (cI, 20, .inl bb)), (qD6, .inl (cI, 6, .inl bm)), (qD7, .inl (cI, 20, .inl xx)), (qD8, .inl (cI, 20, .inl yy))] sz)) 0 0 (va_A [(qD, .inr (0, [.ref hT, .ref qD1, .ref qD2, .ref qD3, .ref qD4, .ref qD5, .ref qD6, .ref qD7, .ref qD8, .int (nI pts)])), (qD1, .inl (cI, 20, .inl kd)), (qD2, .inl (cI, 20, .inl ba)), (qD3, .inl (cI, 20, .inl ot)), (qD4, .inl (cI, 20, .inl aa)), (qD5, .inl (cI, 20, .inl bb)), (qD6, .inl (cI, 6, .inl bm)), (qD7, .inl (cI, 20, .inl xx)), (qD8, .inl (cI, 20, .inl yy))] sz) := by
  refine Met.ofW (cc := cX0_addPoint) (maxL := 6) (ret := (some .int)) (by decide) rfl ?_
  intro p e s m args below meth c s₁ B hml hv
  obtain ⟨rfl, hsz, hP, hD0, hK⟩ := hv
  have hx := B.exec
  have hb := B.bytes
  have hr := B.returns
  have hts := atoms_spec (ws := wsX0_addPoint) B.pre
  have hown : s.vm.findClass RX0 = some m.cls := findClass_of_methodNamed B.named
  have hlocks := B.notSynchronized
  subst hsz
  have hD := hD0.self (sz := s.heap.size)
  generalize hAe : va_A [(qD, .inr (0, [.ref hT, .ref qD1, .ref qD2, .ref qD3, .ref qD4, .ref qD5, .ref qD6, .ref qD7, .ref qD8, .int (nI pts)])), (qD1, .inl (cI, 20, .inl kd)), (qD2, .inl (cI, 20, .inl ba)), (qD3, .inl (cI, 20, .inl ot)), (qD4, .inl (cI, 20, .inl aa)), (qD5, .inl (cI, 20, .inl bb)), (qD6, .inl (cI, 6, .inl bm)), (qD7, .inl (cI, 20, .inl xx)), (qD8, .inl (cI, 20, .inl yy))] s.heap.size = A at hD ⊢
  have hA : ∀ q : Nat, s.heap.size ≤ q → A q := fun q h => by rw [← hAe]; exact Or.inr h
  have hS : va_S A s.heap s.heap [] := va_S.rf
  have hl := lv_entry ([.ref qD, .int kind, .int base, .int other, .int a, .int b]) (n := 6) (Nat.le_of_ble_eq_true rfl)
  rw [lg_entry_eq]
  generalize (lg_sl ([.ref qD, .int kind, .int base, .int other, .int a, .int b]) ++ List.replicate (6 - (lg_sl ([.ref qD, .int kind, .int base, .int other, .int a, .int b])).length) Slot.unset).toArray = ls at hl ⊢
  have hl : lv_has ls 6 [(0, .ref qD), (1, .int kind), (2, .int base), (3, .int other), (4, .int a), (5, .int b)] := hl
  refine lv_aload_n hx hb dX0_addPoint_0 rfl (lv_at hl 0 rfl) ?_
  refine va_get (D := G) (ci := 0) (v := .int (nI pts)) (C := RX0) (T := TX0) (N := 10) hx hb hts (fun _ h => List.mem_cons_of_mem _ (List.mem_append_right _ h)) hown hK.1 hP 0 rfl rfl 9 (by decide) (hts (.fieldLink RX0 36 "TailorHouse$Draft" "points" "I") (List.mem_of_getElem? (i := 1) rfl)) (fun _ h9 => h9) rfl dX0_addPoint_1 ?_
  refine lv_bipush (v := 20) hx hb dX0_addPoint_4 (by decide) ?_
  refine kx_ltN hx hb pts 20 (by omega) (by omega) (tgt := 12) dX0_addPoint_6 (by decide) (fun c_1 => ?_) (fun c_1 => ?_)
  · skip
    refine lv_aload_n hx hb dX0_addPoint_12 rfl (lv_at hl 0 rfl) ?_
    refine va_get (D := G) (ci := 0) (v := .ref qD1) (C := RX0) (T := TX0) (N := 10) hx hb hts (fun _ h => List.mem_cons_of_mem _ (List.mem_append_right _ h)) hown hK.1 hP 0 rfl rfl 1 (by decide) (hts (.fieldLink RX0 9 "TailorHouse$Draft" "kinds" "[I") (List.mem_of_getElem? (i := 2) rfl)) (fun _ h9 => h9) rfl dX0_addPoint_13 ?_
    refine lv_aload_n hx hb dX0_addPoint_16 rfl (lv_at hl 0 rfl) ?_
    refine va_get (D := G) (ci := 0) (v := .int (nI pts)) (C := RX0) (T := TX0) (N := 10) hx hb hts (fun _ h => List.mem_cons_of_mem _ (List.mem_append_right _ h)) hown hK.1 hP 0 rfl rfl 9 (by decide) (hts (.fieldLink RX0 36 "TailorHouse$Draft" "points" "I") (List.mem_of_getElem? (i := 1) rfl)) (fun _ h9 => h9) rfl dX0_addPoint_17 ?_
    refine lv_iload_n hx hb dX0_addPoint_20 rfl (lv_at hl 1 rfl) ?_
    refine kx_iastN hx hb hK.1 hP hD hS 1 rfl rfl pts (by omega) (by decide) dX0_addPoint_21 (fun H locs hP hD hS => ?_)
    have hP : va_P G vwCl [(qD, .inr (0, [.ref hT, .ref qD1, .ref qD2, .ref qD3, .ref qD4, .ref qD5, .ref qD6, .ref qD7, .ref qD8, .int (nI pts)])), (qD1, .inl (cI, 20, .inl (upd kd pts kind))), (qD2, .inl (cI, 20, .inl ba)), (qD3, .inl (cI, 20, .inl ot)), (qD4, .inl (cI, 20, .inl aa)), (qD5, .inl (cI, 20, .inl bb)), (qD6, .inl (cI, 6, .inl bm)), (qD7, .inl (cI, 20, .inl xx)), (qD8, .inl (cI, 20, .inl yy))] H := hP
    have hD : va_D A [(qD, .inr (0, [.ref hT, .ref qD1, .ref qD2, .ref qD3, .ref qD4, .ref qD5, .ref qD6, .ref qD7, .ref qD8, .int (nI pts)])), (qD1, .inl (cI, 20, .inl (upd kd pts kind))), (qD2, .inl (cI, 20, .inl ba)), (qD3, .inl (cI, 20, .inl ot)), (qD4, .inl (cI, 20, .inl aa)), (qD5, .inl (cI, 20, .inl bb)), (qD6, .inl (cI, 6, .inl bm)), (qD7, .inl (cI, 20, .inl xx)), (qD8, .inl (cI, 20, .inl yy))] := hD
    refine lv_aload_n hx hb dX0_addPoint_22 rfl (lv_at hl 0 rfl) ?_
    refine va_get (D := G) (ci := 0) (v := .ref qD2) (C := RX0) (T := TX0) (N := 10) hx hb hts (fun _ h => List.mem_cons_of_mem _ (List.mem_append_right _ h)) hown hK.1 hP 0 rfl rfl 2 (by decide) (hts (.fieldLink RX0 15 "TailorHouse$Draft" "bases" "[I") (List.mem_of_getElem? (i := 3) rfl)) (fun _ h9 => h9) rfl dX0_addPoint_23 ?_
    refine lv_aload_n hx hb dX0_addPoint_26 rfl (lv_at hl 0 rfl) ?_
    refine va_get (D := G) (ci := 0) (v := .int (nI pts)) (C := RX0) (T := TX0) (N := 10) hx hb hts (fun _ h => List.mem_cons_of_mem _ (List.mem_append_right _ h)) hown hK.1 hP 0 rfl rfl 9 (by decide) (hts (.fieldLink RX0 36 "TailorHouse$Draft" "points" "I") (List.mem_of_getElem? (i := 1) rfl)) (fun _ h9 => h9) rfl dX0_addPoint_27 ?_
    refine lv_iload_n hx hb dX0_addPoint_30 rfl (lv_at hl 2 rfl) ?_
    refine kx_iastN hx hb hK.1 hP hD hS 2 rfl rfl pts (by omega) (by decide) dX0_addPoint_31 (fun H locs hP hD hS => ?_)
    have hP : va_P G vwCl [(qD, .inr (0, [.ref hT, .ref qD1, .ref qD2, .ref qD3, .ref qD4, .ref qD5, .ref qD6, .ref qD7, .ref qD8, .int (nI pts)])), (qD1, .inl (cI, 20, .inl (upd kd pts kind))), (qD2, .inl (cI, 20, .inl (upd ba pts base))), (qD3, .inl (cI, 20, .inl ot)), (qD4, .inl (cI, 20, .inl aa)), (qD5, .inl (cI, 20, .inl bb)), (qD6, .inl (cI, 6, .inl bm)), (qD7, .inl (cI, 20, .inl xx)), (qD8, .inl (cI, 20, .inl yy))] H := hP
    have hD : va_D A [(qD, .inr (0, [.ref hT, .ref qD1, .ref qD2, .ref qD3, .ref qD4, .ref qD5, .ref qD6, .ref qD7, .ref qD8, .int (nI pts)])), (qD1, .inl (cI, 20, .inl (upd kd pts kind))), (qD2, .inl (cI, 20, .inl (upd ba pts base))), (qD3, .inl (cI, 20, .inl ot)), (qD4, .inl (cI, 20, .inl aa)), (qD5, .inl (cI, 20, .inl bb)), (qD6, .inl (cI, 6, .inl bm)), (qD7, .inl (cI, 20, .inl xx)), (qD8, .inl (cI, 20, .inl yy))] := hD
    refine lv_aload_n hx hb dX0_addPoint_32 rfl (lv_at hl 0 rfl) ?_
    refine va_get (D := G) (ci := 0) (v := .ref qD3) (C := RX0) (T := TX0) (N := 10) hx hb hts (fun _ h => List.mem_cons_of_mem _ (List.mem_append_right _ h)) hown hK.1 hP 0 rfl rfl 3 (by decide) (hts (.fieldLink RX0 18 "TailorHouse$Draft" "others" "[I") (List.mem_of_getElem? (i := 4) rfl)) (fun _ h9 => h9) rfl dX0_addPoint_33 ?_
    refine lv_aload_n hx hb dX0_addPoint_36 rfl (lv_at hl 0 rfl) ?_
    refine va_get (D := G) (ci := 0) (v := .int (nI pts)) (C := RX0) (T := TX0) (N := 10) hx hb hts (fun _ h => List.mem_cons_of_mem _ (List.mem_append_right _ h)) hown hK.1 hP 0 rfl rfl 9 (by decide) (hts (.fieldLink RX0 36 "TailorHouse$Draft" "points" "I") (List.mem_of_getElem? (i := 1) rfl)) (fun _ h9 => h9) rfl dX0_addPoint_37 ?_
    refine lv_iload_n hx hb dX0_addPoint_40 rfl (lv_at hl 3 rfl) ?_
    refine kx_iastN hx hb hK.1 hP hD hS 3 rfl rfl pts (by omega) (by decide) dX0_addPoint_41 (fun H locs hP hD hS => ?_)
    have hP : va_P G vwCl [(qD, .inr (0, [.ref hT, .ref qD1, .ref qD2, .ref qD3, .ref qD4, .ref qD5, .ref qD6, .ref qD7, .ref qD8, .int (nI pts)])), (qD1, .inl (cI, 20, .inl (upd kd pts kind))), (qD2, .inl (cI, 20, .inl (upd ba pts base))), (qD3, .inl (cI, 20, .inl (upd ot pts other))), (qD4, .inl (cI, 20, .inl aa)), (qD5, .inl (cI, 20, .inl bb)), (qD6, .inl (cI, 6, .inl bm)), (qD7, .inl (cI, 20, .inl xx)), (qD8, .inl (cI, 20, .inl yy))] H := hP
    have hD : va_D A [(qD, .inr (0, [.ref hT, .ref qD1, .ref qD2, .ref qD3, .ref qD4, .ref qD5, .ref qD6, .ref qD7, .ref qD8, .int (nI pts)])), (qD1, .inl (cI, 20, .inl (upd kd pts kind))), (qD2, .inl (cI, 20, .inl (upd ba pts base))), (qD3, .inl (cI, 20, .inl (upd ot pts other))), (qD4, .inl (cI, 20, .inl aa)), (qD5, .inl (cI, 20, .inl bb)), (qD6, .inl (cI, 6, .inl bm)), (qD7, .inl (cI, 20, .inl xx)), (qD8, .inl (cI, 20, .inl yy))] := hD
    refine lv_aload_n hx hb dX0_addPoint_42 rfl (lv_at hl 0 rfl) ?_
    refine va_get (D := G) (ci := 0) (v := .ref qD4) (C := RX0) (T := TX0) (N := 10) hx hb hts (fun _ h => List.mem_cons_of_mem _ (List.mem_append_right _ h)) hown hK.1 hP 0 rfl rfl 4 (by decide) (hts (.fieldLink RX0 21 "TailorHouse$Draft" "as" "[I") (List.mem_of_getElem? (i := 5) rfl)) (fun _ h9 => h9) rfl dX0_addPoint_43 ?_
    refine lv_aload_n hx hb dX0_addPoint_46 rfl (lv_at hl 0 rfl) ?_
    refine va_get (D := G) (ci := 0) (v := .int (nI pts)) (C := RX0) (T := TX0) (N := 10) hx hb hts (fun _ h => List.mem_cons_of_mem _ (List.mem_append_right _ h)) hown hK.1 hP 0 rfl rfl 9 (by decide) (hts (.fieldLink RX0 36 "TailorHouse$Draft" "points" "I") (List.mem_of_getElem? (i := 1) rfl)) (fun _ h9 => h9) rfl dX0_addPoint_47 ?_
    refine lv_iload hx hb dX0_addPoint_50 (lv_at hl 4 rfl) ?_
    refine kx_iastN hx hb hK.1 hP hD hS 4 rfl rfl pts (by omega) (by decide) dX0_addPoint_52 (fun H locs hP hD hS => ?_)
    have hP : va_P G vwCl [(qD, .inr (0, [.ref hT, .ref qD1, .ref qD2, .ref qD3, .ref qD4, .ref qD5, .ref qD6, .ref qD7, .ref qD8, .int (nI pts)])), (qD1, .inl (cI, 20, .inl (upd kd pts kind))), (qD2, .inl (cI, 20, .inl (upd ba pts base))), (qD3, .inl (cI, 20, .inl (upd ot pts other))), (qD4, .inl (cI, 20, .inl (upd aa pts a))), (qD5, .inl (cI, 20, .inl bb)), (qD6, .inl (cI, 6, .inl bm)), (qD7, .inl (cI, 20, .inl xx)), (qD8, .inl (cI, 20, .inl yy))] H := hP
    have hD : va_D A [(qD, .inr (0, [.ref hT, .ref qD1, .ref qD2, .ref qD3, .ref qD4, .ref qD5, .ref qD6, .ref qD7, .ref qD8, .int (nI pts)])), (qD1, .inl (cI, 20, .inl (upd kd pts kind))), (qD2, .inl (cI, 20, .inl (upd ba pts base))), (qD3, .inl (cI, 20, .inl (upd ot pts other))), (qD4, .inl (cI, 20, .inl (upd aa pts a))), (qD5, .inl (cI, 20, .inl bb)), (qD6, .inl (cI, 6, .inl bm)), (qD7, .inl (cI, 20, .inl xx)), (qD8, .inl (cI, 20, .inl yy))] := hD
    refine lv_aload_n hx hb dX0_addPoint_53 rfl (lv_at hl 0 rfl) ?_
    refine va_get (D := G) (ci := 0) (v := .ref qD5) (C := RX0) (T := TX0) (N := 10) hx hb hts (fun _ h => List.mem_cons_of_mem _ (List.mem_append_right _ h)) hown hK.1 hP 0 rfl rfl 5 (by decide) (hts (.fieldLink RX0 24 "TailorHouse$Draft" "bs" "[I") (List.mem_of_getElem? (i := 6) rfl)) (fun _ h9 => h9) rfl dX0_addPoint_54 ?_
    refine lv_aload_n hx hb dX0_addPoint_57 rfl (lv_at hl 0 rfl) ?_
    refine va_get (D := G) (ci := 0) (v := .int (nI pts)) (C := RX0) (T := TX0) (N := 10) hx hb hts (fun _ h => List.mem_cons_of_mem _ (List.mem_append_right _ h)) hown hK.1 hP 0 rfl rfl 9 (by decide) (hts (.fieldLink RX0 36 "TailorHouse$Draft" "points" "I") (List.mem_of_getElem? (i := 1) rfl)) (fun _ h9 => h9) rfl dX0_addPoint_58 ?_
    refine lv_iload hx hb dX0_addPoint_61 (lv_at hl 5 rfl) ?_
    refine kx_iastN hx hb hK.1 hP hD hS 5 rfl rfl pts (by omega) (by decide) dX0_addPoint_63 (fun H locs hP hD hS => ?_)
    have hP : va_P G vwCl [(qD, .inr (0, [.ref hT, .ref qD1, .ref qD2, .ref qD3, .ref qD4, .ref qD5, .ref qD6, .ref qD7, .ref qD8, .int (nI pts)])), (qD1, .inl (cI, 20, .inl (upd kd pts kind))), (qD2, .inl (cI, 20, .inl (upd ba pts base))), (qD3, .inl (cI, 20, .inl (upd ot pts other))), (qD4, .inl (cI, 20, .inl (upd aa pts a))), (qD5, .inl (cI, 20, .inl (upd bb pts b))), (qD6, .inl (cI, 6, .inl bm)), (qD7, .inl (cI, 20, .inl xx)), (qD8, .inl (cI, 20, .inl yy))] H := hP
    have hD : va_D A [(qD, .inr (0, [.ref hT, .ref qD1, .ref qD2, .ref qD3, .ref qD4, .ref qD5, .ref qD6, .ref qD7, .ref qD8, .int (nI pts)])), (qD1, .inl (cI, 20, .inl (upd kd pts kind))), (qD2, .inl (cI, 20, .inl (upd ba pts base))), (qD3, .inl (cI, 20, .inl (upd ot pts other))), (qD4, .inl (cI, 20, .inl (upd aa pts a))), (qD5, .inl (cI, 20, .inl (upd bb pts b))), (qD6, .inl (cI, 6, .inl bm)), (qD7, .inl (cI, 20, .inl xx)), (qD8, .inl (cI, 20, .inl yy))] := hD
    refine lv_aload_n hx hb dX0_addPoint_64 rfl (lv_at hl 0 rfl) ?_
    refine lv_dup hx hb dX0_addPoint_65 rfl ?_
    refine va_get (D := G) (ci := 0) (v := .int (nI pts)) (C := RX0) (T := TX0) (N := 10) hx hb hts (fun _ h => List.mem_cons_of_mem _ (List.mem_append_right _ h)) hown hK.1 hP 0 rfl rfl 9 (by decide) (hts (.fieldLink RX0 36 "TailorHouse$Draft" "points" "I") (List.mem_of_getElem? (i := 1) rfl)) (fun _ h9 => h9) rfl dX0_addPoint_66 ?_
    refine lv_iconst (v := 1) hx hb dX0_addPoint_69 (by decide) ?_
    refine kx_iaddN hx hb pts 1 dX0_addPoint_70 ?_
    refine va_put (D := G) (ci := 0) (v := .int (nI (pts + 1))) (ty := .int) (C := RX0) (T := TX0) (N := 10) hx hb hts (fun _ h => List.mem_cons_of_mem _ (List.mem_append_right _ h)) tyX0 tyX0_ok nmX0 hown hK.1 hP hD hS 0 rfl rfl 9 (by decide) (hts (.fieldLink RX0 36 "TailorHouse$Draft" "points" "I") (List.mem_of_getElem? (i := 1) rfl)) (fun _ h9 => h9) rfl (by decide +kernel) rfl rfl (Nat.le_of_ble_eq_true rfl) dX0_addPoint_71 (fun H locs hP hD hS => ?_)
    have hP : va_P G vwCl [(qD, .inr (0, [.ref hT, .ref qD1, .ref qD2, .ref qD3, .ref qD4, .ref qD5, .ref qD6, .ref qD7, .ref qD8, .int (nI (pts + 1))])), (qD1, .inl (cI, 20, .inl (upd kd pts kind))), (qD2, .inl (cI, 20, .inl (upd ba pts base))), (qD3, .inl (cI, 20, .inl (upd ot pts other))), (qD4, .inl (cI, 20, .inl (upd aa pts a))), (qD5, .inl (cI, 20, .inl (upd bb pts b))), (qD6, .inl (cI, 6, .inl bm)), (qD7, .inl (cI, 20, .inl xx)), (qD8, .inl (cI, 20, .inl yy))] H := hP
    have hD : va_D A [(qD, .inr (0, [.ref hT, .ref qD1, .ref qD2, .ref qD3, .ref qD4, .ref qD5, .ref qD6, .ref qD7, .ref qD8, .int (nI (pts + 1))])), (qD1, .inl (cI, 20, .inl (upd kd pts kind))), (qD2, .inl (cI, 20, .inl (upd ba pts base))), (qD3, .inl (cI, 20, .inl (upd ot pts other))), (qD4, .inl (cI, 20, .inl (upd aa pts a))), (qD5, .inl (cI, 20, .inl (upd bb pts b))), (qD6, .inl (cI, 6, .inl bm)), (qD7, .inl (cI, 20, .inl xx)), (qD8, .inl (cI, 20, .inl yy))] := hD
    refine lv_aload_n hx hb dX0_addPoint_74 rfl (lv_at hl 0 rfl) ?_
    refine va_get (D := G) (ci := 0) (v := .int (nI (pts + 1))) (C := RX0) (T := TX0) (N := 10) hx hb hts (fun _ h => List.mem_cons_of_mem _ (List.mem_append_right _ h)) hown hK.1 hP 0 rfl rfl 9 (by decide) (hts (.fieldLink RX0 36 "TailorHouse$Draft" "points" "I") (List.mem_of_getElem? (i := 1) rfl)) (fun _ h9 => h9) rfl dX0_addPoint_75 ?_
    refine lv_iconst (v := 1) hx hb dX0_addPoint_78 (by decide) ?_
    refine kx_isubN hx hb (pts + 1) 1 (by omega) dX0_addPoint_79 ?_
    exact W.iret (v := (nI ((pts + 1) - 1))) hx hb hr (fun t ht hW => ⟨⟨(nI ((pts + 1) - 1)), (upd kd pts kind, upd ba pts base, upd ot pts other, upd aa pts a, upd bb pts b, pts + 1), rfl, by simp [c_1, Nat.not_le.mpr c_1], by (show va_P G vwCl _ t.heap; rw [ht]; exact hP)⟩, hS.F ht⟩) hS.2.2 dX0_addPoint_80 hlocks
  · skip
    refine lv_bipush (v := (-4)) hx hb dX0_addPoint_9 (by decide) ?_
    exact W.iret (v := (-4)) hx hb hr (fun t ht hW => ⟨⟨(-4), (kd, ba, ot, aa, bb, pts), rfl, by simp [c_1, Nat.not_lt.mpr c_1], by (show va_P G vwCl _ t.heap; rw [ht]; exact hP)⟩, hS.F ht⟩) hS.2.2 dX0_addPoint_11 hlocks
theorem h_X0_put (cI cZ : ClassId) (qD : Nat) (hT : Nat) (qD1 : Nat) (qD2 : Nat) (qD3 : Nat) (qD4 : Nat) (qD5 : Nat) (qD6 : Nat) (qD7 : Nat) (qD8 : Nat) (kd : Nat → Int32) (ba : Nat → Int32) (ot : Nat → Int32) (aa : Nat → Int32) (bb : Nat → Int32) (bm : Nat → Int32) (xx : Nat → Int32) (yy : Nat → Int32) (pts : Nat) : ∀ u, (((fun u : (Nat → Int32) × (Nat → Int32) => [(qD, .inr (0, [.ref hT, .ref qD1, .ref qD2, .ref qD3, .ref qD4, .ref qD5, .ref qD6, .ref qD7, .ref qD8, .int (nI pts)])), (qD1, .inl (cI, 20, .inl kd)), (qD2, .inl (cI, 20, .inl ba)), (qD3, .inl (cI, 20, .inl ot)), (qD4, .inl (cI, 20, .inl aa)), (qD5, .inl (cI, 20, .inl bb)), (qD6, .inl (cI, 6, .inl bm)), (qD7, .inl (cI, 20, .inl u.1)), (qD8, .inl (cI, 20, .inl u.2))]) : ((Nat → Int32) × (Nat → Int32)) → va_W) u).map Prod.fst = ([(qD, .inr (0, [.ref hT, .ref qD1, .ref qD2, .ref qD3, .ref qD4, .ref qD5, .ref qD6, .ref qD7, .ref qD8, .int (nI pts)])), (qD1, .inl (cI, 20, .inl kd)), (qD2, .inl (cI, 20, .inl ba)), (qD3, .inl (cI, 20, .inl ot)), (qD4, .inl (cI, 20, .inl aa)), (qD5, .inl (cI, 20, .inl bb)), (qD6, .inl (cI, 6, .inl bm)), (qD7, .inl (cI, 20, .inl xx)), (qD8, .inl (cI, 20, .inl yy))] : va_W).map Prod.fst := fun _ => rfl
abbrev rm_X0_put : Room := { frames := 0, cells := 0, slots := 0, locals := 0 }
set_option maxHeartbeats 4000000 in
set_option maxRecDepth 100000 in
theorem c_X0_put (l : Launch) (G : va_G) (cI cZ : ClassId) (qD : Nat) (hT : Nat) (qD1 : Nat) (qD2 : Nat) (qD3 : Nat) (qD4 : Nat) (qD5 : Nat) (qD6 : Nat) (qD7 : Nat) (qD8 : Nat) (kd : Nat → Int32) (ba : Nat → Int32) (ot : Nat → Int32) (aa : Nat → Int32) (bb : Nat → Int32) (bm : Nat → Int32) (xx : Nat → Int32) (yy : Nat → Int32) (pts : Nat) (sz : Nat) (pp : Nat) (nx : Int32) (ny : Int32) (hp : pp < 20) : Met l yX0_put wsX0_put rm_X0_put (kx_Pw G cI cZ [(qD, .inr (0, [.ref hT, .ref qD1, .ref qD2, .ref qD3, .ref qD4, .ref qD5, .ref qD6, .ref qD7, .ref qD8, .int (nI pts)])), (qD1, .inl (cI, 20, .inl kd)), (qD2, .inl (cI, 20, .inl ba)), (qD3, .inl (cI, 20, .inl ot)), (qD4, .inl (cI, 20, .inl aa)), (qD5, .inl (cI, 20, .inl bb)), (qD6, .inl (cI, 6, .inl bm)), (qD7, .inl (cI, 20, .inl xx)), (qD8, .inl (cI, 20, .inl yy))] sz [.ref qD, .int (nI pp), .int nx, .int ny]) (va_Qv (fun (u : (Nat → Int32) × (Nat → Int32)) => upd xx pp nx = u.1 ∧ upd yy pp ny = u.2) (fun u t => va_P G vwCl ((fun u : (Nat → Int32) × (Nat → Int32) => [(qD, .inr (0, [.ref hT, .ref qD1, .ref qD2, .ref qD3, .ref qD4, .ref qD5, .ref qD6, .ref qD7, .ref qD8, .int (nI pts)])), (qD1, .inl (cI, 20, .inl kd)), (qD2, .inl (cI, 20, .inl ba)), (qD3, .inl (cI, 20, .inl ot)), (qD4, .inl (cI, 20, .inl aa)), (qD5, .inl (cI, 20, .inl bb)), (qD6, .inl (cI, 6, .inl bm)), (qD7, .inl (cI, 20, .inl u.1)), (qD8, .inl (cI, 20, .inl u.2))]) u) t.heap) (va_A [(qD, .inr (0, [.ref hT, .ref qD1, .ref qD2, .ref qD3, .ref qD4, .ref qD5, .ref qD6, .ref qD7, .ref qD8, .int (nI pts)])), (qD1, .inl (cI, 20, .inl kd)), (qD2, .inl (cI, 20, .inl ba)), (qD3, .inl (cI, 20, .inl ot)), (qD4, .inl (cI, 20, .inl aa)), (qD5, .inl (cI, 20, .inl bb)), (qD6, .inl (cI, 6, .inl bm)), (qD7, .inl (cI, 20, .inl xx)), (qD8, .inl (cI, 20, .inl yy))] sz)) 0 0 (va_A [(qD, .inr (0, [.ref hT, .ref qD1, .ref qD2, .ref qD3, .ref qD4, .ref qD5, .ref qD6, .ref qD7, .ref qD8, .int (nI pts)])), (qD1, .inl (cI, 20, .inl kd)), (qD2, .inl (cI, 20, .inl ba)), (qD3, .inl (cI, 20, .inl ot)), (qD4, .inl (cI, 20, .inl aa)), (qD5, .inl (cI, 20, .inl bb)), (qD6, .inl (cI, 6, .inl bm)), (qD7, .inl (cI, 20, .inl xx)), (qD8, .inl (cI, 20, .inl yy))] sz) := by
  refine Met.ofW (cc := cX0_put) (maxL := 4) (ret := none) (by decide) rfl ?_
  intro p e s m args below meth c s₁ B hml hv
  obtain ⟨rfl, hsz, hP, hD0, hK⟩ := hv
  have hx := B.exec
  have hb := B.bytes
  have hr := B.returns
  have hts := atoms_spec (ws := wsX0_put) B.pre
  have hown : s.vm.findClass RX0 = some m.cls := findClass_of_methodNamed B.named
  have hlocks := B.notSynchronized
  subst hsz
  have hD := hD0.self (sz := s.heap.size)
  generalize hAe : va_A [(qD, .inr (0, [.ref hT, .ref qD1, .ref qD2, .ref qD3, .ref qD4, .ref qD5, .ref qD6, .ref qD7, .ref qD8, .int (nI pts)])), (qD1, .inl (cI, 20, .inl kd)), (qD2, .inl (cI, 20, .inl ba)), (qD3, .inl (cI, 20, .inl ot)), (qD4, .inl (cI, 20, .inl aa)), (qD5, .inl (cI, 20, .inl bb)), (qD6, .inl (cI, 6, .inl bm)), (qD7, .inl (cI, 20, .inl xx)), (qD8, .inl (cI, 20, .inl yy))] s.heap.size = A at hD ⊢
  have hA : ∀ q : Nat, s.heap.size ≤ q → A q := fun q h => by rw [← hAe]; exact Or.inr h
  have hS : va_S A s.heap s.heap [] := va_S.rf
  have hl := lv_entry ([.ref qD, .int (nI pp), .int nx, .int ny]) (n := 4) (Nat.le_of_ble_eq_true rfl)
  rw [lg_entry_eq]
  generalize (lg_sl ([.ref qD, .int (nI pp), .int nx, .int ny]) ++ List.replicate (4 - (lg_sl ([.ref qD, .int (nI pp), .int nx, .int ny])).length) Slot.unset).toArray = ls at hl ⊢
  have hl : lv_has ls 4 [(0, .ref qD), (1, .int (nI pp)), (2, .int nx), (3, .int ny)] := hl
  refine lv_aload_n hx hb dX0_put_0 rfl (lv_at hl 0 rfl) ?_
  refine va_get (D := G) (ci := 0) (v := .ref qD7) (C := RX0) (T := TX0) (N := 10) hx hb hts (fun _ h => List.mem_cons_of_mem _ (List.mem_append_right _ h)) hown hK.1 hP 0 rfl rfl 7 (by decide) (hts (.fieldLink RX0 30 "TailorHouse$Draft" "x" "[I") (List.mem_of_getElem? (i := 1) rfl)) (fun _ h9 => h9) rfl dX0_put_1 ?_
  refine lv_iload_n hx hb dX0_put_4 rfl (lv_at hl 1 rfl) ?_
  refine lv_iload_n hx hb dX0_put_5 rfl (lv_at hl 2 rfl) ?_
  refine kx_iastN hx hb hK.1 hP hD hS 7 rfl rfl pp (by omega) (by decide) dX0_put_6 (fun H locs hP hD hS => ?_)
  have hP : va_P G vwCl [(qD, .inr (0, [.ref hT, .ref qD1, .ref qD2, .ref qD3, .ref qD4, .ref qD5, .ref qD6, .ref qD7, .ref qD8, .int (nI pts)])), (qD1, .inl (cI, 20, .inl kd)), (qD2, .inl (cI, 20, .inl ba)), (qD3, .inl (cI, 20, .inl ot)), (qD4, .inl (cI, 20, .inl aa)), (qD5, .inl (cI, 20, .inl bb)), (qD6, .inl (cI, 6, .inl bm)), (qD7, .inl (cI, 20, .inl (upd xx pp nx))), (qD8, .inl (cI, 20, .inl yy))] H := hP
  have hD : va_D A [(qD, .inr (0, [.ref hT, .ref qD1, .ref qD2, .ref qD3, .ref qD4, .ref qD5, .ref qD6, .ref qD7, .ref qD8, .int (nI pts)])), (qD1, .inl (cI, 20, .inl kd)), (qD2, .inl (cI, 20, .inl ba)), (qD3, .inl (cI, 20, .inl ot)), (qD4, .inl (cI, 20, .inl aa)), (qD5, .inl (cI, 20, .inl bb)), (qD6, .inl (cI, 6, .inl bm)), (qD7, .inl (cI, 20, .inl (upd xx pp nx))), (qD8, .inl (cI, 20, .inl yy))] := hD
  refine lv_aload_n hx hb dX0_put_7 rfl (lv_at hl 0 rfl) ?_
  refine va_get (D := G) (ci := 0) (v := .ref qD8) (C := RX0) (T := TX0) (N := 10) hx hb hts (fun _ h => List.mem_cons_of_mem _ (List.mem_append_right _ h)) hown hK.1 hP 0 rfl rfl 8 (by decide) (hts (.fieldLink RX0 33 "TailorHouse$Draft" "y" "[I") (List.mem_of_getElem? (i := 2) rfl)) (fun _ h9 => h9) rfl dX0_put_8 ?_
  refine lv_iload_n hx hb dX0_put_11 rfl (lv_at hl 1 rfl) ?_
  refine lv_iload_n hx hb dX0_put_12 rfl (lv_at hl 3 rfl) ?_
  refine kx_iastN hx hb hK.1 hP hD hS 8 rfl rfl pp (by omega) (by decide) dX0_put_13 (fun H locs hP hD hS => ?_)
  have hP : va_P G vwCl [(qD, .inr (0, [.ref hT, .ref qD1, .ref qD2, .ref qD3, .ref qD4, .ref qD5, .ref qD6, .ref qD7, .ref qD8, .int (nI pts)])), (qD1, .inl (cI, 20, .inl kd)), (qD2, .inl (cI, 20, .inl ba)), (qD3, .inl (cI, 20, .inl ot)), (qD4, .inl (cI, 20, .inl aa)), (qD5, .inl (cI, 20, .inl bb)), (qD6, .inl (cI, 6, .inl bm)), (qD7, .inl (cI, 20, .inl (upd xx pp nx))), (qD8, .inl (cI, 20, .inl (upd yy pp ny)))] H := hP
  have hD : va_D A [(qD, .inr (0, [.ref hT, .ref qD1, .ref qD2, .ref qD3, .ref qD4, .ref qD5, .ref qD6, .ref qD7, .ref qD8, .int (nI pts)])), (qD1, .inl (cI, 20, .inl kd)), (qD2, .inl (cI, 20, .inl ba)), (qD3, .inl (cI, 20, .inl ot)), (qD4, .inl (cI, 20, .inl aa)), (qD5, .inl (cI, 20, .inl bb)), (qD6, .inl (cI, 6, .inl bm)), (qD7, .inl (cI, 20, .inl (upd xx pp nx))), (qD8, .inl (cI, 20, .inl (upd yy pp ny)))] := hD
  exact W.vret hx hb hr (fun t ht hW => ⟨⟨(upd xx pp nx, upd yy pp ny), rfl, ⟨rfl, rfl⟩, by (show va_P G vwCl _ t.heap; rw [ht]; exact hP)⟩, hS.F ht⟩) hS.2.2 dX0_put_14 hlocks
abbrev rm_X0_part : Room := { frames := 1, cells := 0, slots := 0, locals := 21 }
set_option maxHeartbeats 4000000 in
set_option maxRecDepth 100000 in
theorem c_X0_part (l : Launch) (G : va_G) (cI cZ : ClassId) (qD : Nat) (hT : Nat) (qD1 : Nat) (qD2 : Nat) (qD3 : Nat) (qD4 : Nat) (qD5 : Nat) (qD6 : Nat) (qD7 : Nat) (qD8 : Nat) (kd : Nat → Int32) (ba : Nat → Int32) (ot : Nat → Int32) (aa : Nat → Int32) (bb : Nat → Int32) (bm : Nat → Int32) (xx : Nat → Int32) (yy : Nat → Int32) (pts : Nat) (pp : Nat) (hp : pp < 20) (ho : vp_in (ot pp) 6) : Met l yX0_part wsX0_part rm_X0_part (kx_Pr G cI cZ [(qD, .inr (0, [.ref hT, .ref qD1, .ref qD2, .ref qD3, .ref qD4, .ref qD5, .ref qD6, .ref qD7, .ref qD8, .int (nI pts)])), (qD1, .inl (cI, 20, .inl kd)), (qD2, .inl (cI, 20, .inl ba)), (qD3, .inl (cI, 20, .inl ot)), (qD4, .inl (cI, 20, .inl aa)), (qD5, .inl (cI, 20, .inl bb)), (qD6, .inl (cI, 6, .inl bm)), (qD7, .inl (cI, 20, .inl xx)), (qD8, .inl (cI, 20, .inl yy))] [.ref qD, .int (nI pp)]) (QcRead (kPart ot aa bb bm pp)) 0 0 (fun _ => False) := by
  refine Met.ofW (cc := cX0_part) (maxL := 2) (ret := (some .int)) (by decide) rfl ?_
  intro p e s m args below meth c s₁ B hml hv
  obtain ⟨rfl, hP, hK⟩ := hv
  have hx := B.exec
  have hb := B.bytes
  have hr := B.returns
  have hts := atoms_spec (ws := wsX0_part) B.pre
  have hown : s.vm.findClass RX0 = some m.cls := findClass_of_methodNamed B.named
  have hlocks := B.notSynchronized
  have hl := lv_entry ([.ref qD, .int (nI pp)]) (n := 2) (Nat.le_of_ble_eq_true rfl)
  rw [lg_entry_eq]
  generalize (lg_sl ([.ref qD, .int (nI pp)]) ++ List.replicate (2 - (lg_sl ([.ref qD, .int (nI pp)])).length) Slot.unset).toArray = ls at hl ⊢
  have hl : lv_has ls 2 [(0, .ref qD), (1, .int (nI pp))] := hl
  refine lv_aload_n hx hb dX0_part_0 rfl (lv_at hl 0 rfl) ?_
  refine va_get (D := G) (ci := 0) (v := .ref qD6) (C := RX0) (T := TX0) (N := 10) hx hb hts (fun _ h => List.mem_cons_of_mem _ (List.mem_append_right _ h)) hown hK.1 hP 0 rfl rfl 6 (by decide) (hts (.fieldLink RX0 27 "TailorHouse$Draft" "bodyMeasures" "[I") (List.mem_of_getElem? (i := 1) rfl)) (fun _ h9 => h9) rfl dX0_part_1 ?_
  refine lv_aload_n hx hb dX0_part_4 rfl (lv_at hl 0 rfl) ?_
  refine va_get (D := G) (ci := 0) (v := .ref qD3) (C := RX0) (T := TX0) (N := 10) hx hb hts (fun _ h => List.mem_cons_of_mem _ (List.mem_append_right _ h)) hown hK.1 hP 0 rfl rfl 3 (by decide) (hts (.fieldLink RX0 18 "TailorHouse$Draft" "others" "[I") (List.mem_of_getElem? (i := 2) rfl)) (fun _ h9 => h9) rfl dX0_part_5 ?_
  refine lv_iload_n hx hb dX0_part_8 rfl (lv_at hl 1 rfl) ?_
  refine kx_ialdN hx hb hK.1 hP 3 rfl rfl pp (by omega) (by decide) dX0_part_9 ?_
  refine va_iald hx hb hK.1 hP 6 0 rfl rfl (ho) dX0_part_10 ?_
  refine lv_aload_n hx hb dX0_part_11 rfl (lv_at hl 0 rfl) ?_
  refine va_get (D := G) (ci := 0) (v := .ref qD4) (C := RX0) (T := TX0) (N := 10) hx hb hts (fun _ h => List.mem_cons_of_mem _ (List.mem_append_right _ h)) hown hK.1 hP 0 rfl rfl 4 (by decide) (hts (.fieldLink RX0 21 "TailorHouse$Draft" "as" "[I") (List.mem_of_getElem? (i := 3) rfl)) (fun _ h9 => h9) rfl dX0_part_12 ?_
  refine lv_iload_n hx hb dX0_part_15 rfl (lv_at hl 1 rfl) ?_
  refine kx_ialdN hx hb hK.1 hP 4 rfl rfl pp (by omega) (by decide) dX0_part_16 ?_
  refine lv_imul hx hb dX0_part_17 ?_
  refine lv_aload_n hx hb dX0_part_18 rfl (lv_at hl 0 rfl) ?_
  refine va_get (D := G) (ci := 0) (v := .ref qD5) (C := RX0) (T := TX0) (N := 10) hx hb hts (fun _ h => List.mem_cons_of_mem _ (List.mem_append_right _ h)) hown hK.1 hP 0 rfl rfl 5 (by decide) (hts (.fieldLink RX0 24 "TailorHouse$Draft" "bs" "[I") (List.mem_of_getElem? (i := 4) rfl)) (fun _ h9 => h9) rfl dX0_part_19 ?_
  refine lv_iload_n hx hb dX0_part_22 rfl (lv_at hl 1 rfl) ?_
  refine kx_ialdN hx hb hK.1 hP 5 rfl rfl pp (by omega) (by decide) dX0_part_23 ?_
  refine kx_ri (va_runSN (As := [.int ((bm (ot pp).toNatClampNeg) * (aa pp)), .int (bb pp)]) (rest := []) ⟨hx, hb, hml, hown, hts⟩ (c_X5_divide l ((bm (ot pp).toNatClampNeg) * (aa pp)) (bb pp)) ⟨va_cnB 2 hts gX0_part_X5_divide_n73 rfl rfl rfl (hK.2 _ (List.mem_of_getElem? (i := 19) rfl)) (hts (.initialized RX5) (List.mem_of_getElem? (i := 6) rfl)) (by decide +kernel) ⟨(Nat.le_of_ble_eq_true rfl), (Nat.le_of_ble_eq_true rfl)⟩, (hts (.static yX5_divide) (List.mem_of_getElem? (i := 5) rfl)), trivial⟩ kx_preS rfl rfl hl.1 rfl (lv_room (Nat.le_of_ble_eq_true rfl)) dX0_part_24 ⟨Nat.zero_le _, Nat.zero_le _⟩) ?_
  exact kx_iret hx hb hr (v := (kdiv ((bm (ot pp).toNatClampNeg) * (aa pp)) (bb pp))) (rfl) dX0_part_27 hlocks
theorem h_X0_place (cI cZ : ClassId) (qD : Nat) (hT : Nat) (qD1 : Nat) (qD2 : Nat) (qD3 : Nat) (qD4 : Nat) (qD5 : Nat) (qD6 : Nat) (qD7 : Nat) (qD8 : Nat) (kd : Nat → Int32) (ba : Nat → Int32) (ot : Nat → Int32) (aa : Nat → Int32) (bb : Nat → Int32) (bm : Nat → Int32) (xx : Nat → Int32) (yy : Nat → Int32) (pts : Nat) : ∀ u, (((fun u : (Nat → Int32) × (Nat → Int32) => [(qD, .inr (0, [.ref hT, .ref qD1, .ref qD2, .ref qD3, .ref qD4, .ref qD5, .ref qD6, .ref qD7, .ref qD8, .int (nI pts)])), (qD1, .inl (cI, 20, .inl kd)), (qD2, .inl (cI, 20, .inl ba)), (qD3, .inl (cI, 20, .inl ot)), (qD4, .inl (cI, 20, .inl aa)), (qD5, .inl (cI, 20, .inl bb)), (qD6, .inl (cI, 6, .inl bm)), (qD7, .inl (cI, 20, .inl u.1)), (qD8, .inl (cI, 20, .inl u.2))]) : ((Nat → Int32) × (Nat → Int32)) → va_W) u).map Prod.fst = ([(qD, .inr (0, [.ref hT, .ref qD1, .ref qD2, .ref qD3, .ref qD4, .ref qD5, .ref qD6, .ref qD7, .ref qD8, .int (nI pts)])), (qD1, .inl (cI, 20, .inl kd)), (qD2, .inl (cI, 20, .inl ba)), (qD3, .inl (cI, 20, .inl ot)), (qD4, .inl (cI, 20, .inl aa)), (qD5, .inl (cI, 20, .inl bb)), (qD6, .inl (cI, 6, .inl bm)), (qD7, .inl (cI, 20, .inl xx)), (qD8, .inl (cI, 20, .inl yy))] : va_W).map Prod.fst := fun _ => rfl
abbrev rm_X0_place : Room := { frames := 2, cells := 0, slots := 0, locals := 42 }
set_option maxHeartbeats 4000000 in
set_option maxRecDepth 100000 in
theorem c_X0_place (l : Launch) (G : va_G) (cI cZ : ClassId) (qD : Nat) (hT : Nat) (qD1 : Nat) (qD2 : Nat) (qD3 : Nat) (qD4 : Nat) (qD5 : Nat) (qD6 : Nat) (qD7 : Nat) (qD8 : Nat) (kd : Nat → Int32) (ba : Nat → Int32) (ot : Nat → Int32) (aa : Nat → Int32) (bb : Nat → Int32) (bm : Nat → Int32) (xx : Nat → Int32) (yy : Nat → Int32) (pts : Nat) (sz : Nat) (pp : Nat) (hp : pp < 20) (h1 : ¬ kd pp = 0 → vp_in (ba pp) 20) (h2 : (kd pp = 2 ∨ kd pp = 3) → vp_in (ot pp) 6) (h4 : ¬ kd pp = 0 → ¬ kd pp = 1 → ¬ kd pp = 2 → ¬ kd pp = 3 → vp_in (ot pp) 20) : Met l yX0_place wsX0_place rm_X0_place (kx_Pw G cI cZ [(qD, .inr (0, [.ref hT, .ref qD1, .ref qD2, .ref qD3, .ref qD4, .ref qD5, .ref qD6, .ref qD7, .ref qD8, .int (nI pts)])), (qD1, .inl (cI, 20, .inl kd)), (qD2, .inl (cI, 20, .inl ba)), (qD3, .inl (cI, 20, .inl ot)), (qD4, .inl (cI, 20, .inl aa)), (qD5, .inl (cI, 20, .inl bb)), (qD6, .inl (cI, 6, .inl bm)), (qD7, .inl (cI, 20, .inl xx)), (qD8, .inl (cI, 20, .inl yy))] sz [.ref qD, .int (nI pp)]) (va_Qv (fun (u : (Nat → Int32) × (Nat → Int32)) => upd xx pp (kPX kd ba ot aa bb bm xx pp) = u.1 ∧ upd yy pp (kPY kd ba ot aa bb bm yy pp) = u.2) (fun u t => va_P G vwCl ((fun u : (Nat → Int32) × (Nat → Int32) => [(qD, .inr (0, [.ref hT, .ref qD1, .ref qD2, .ref qD3, .ref qD4, .ref qD5, .ref qD6, .ref qD7, .ref qD8, .int (nI pts)])), (qD1, .inl (cI, 20, .inl kd)), (qD2, .inl (cI, 20, .inl ba)), (qD3, .inl (cI, 20, .inl ot)), (qD4, .inl (cI, 20, .inl aa)), (qD5, .inl (cI, 20, .inl bb)), (qD6, .inl (cI, 6, .inl bm)), (qD7, .inl (cI, 20, .inl u.1)), (qD8, .inl (cI, 20, .inl u.2))]) u) t.heap) (va_A [(qD, .inr (0, [.ref hT, .ref qD1, .ref qD2, .ref qD3, .ref qD4, .ref qD5, .ref qD6, .ref qD7, .ref qD8, .int (nI pts)])), (qD1, .inl (cI, 20, .inl kd)), (qD2, .inl (cI, 20, .inl ba)), (qD3, .inl (cI, 20, .inl ot)), (qD4, .inl (cI, 20, .inl aa)), (qD5, .inl (cI, 20, .inl bb)), (qD6, .inl (cI, 6, .inl bm)), (qD7, .inl (cI, 20, .inl xx)), (qD8, .inl (cI, 20, .inl yy))] sz)) 0 0 (va_A [(qD, .inr (0, [.ref hT, .ref qD1, .ref qD2, .ref qD3, .ref qD4, .ref qD5, .ref qD6, .ref qD7, .ref qD8, .int (nI pts)])), (qD1, .inl (cI, 20, .inl kd)), (qD2, .inl (cI, 20, .inl ba)), (qD3, .inl (cI, 20, .inl ot)), (qD4, .inl (cI, 20, .inl aa)), (qD5, .inl (cI, 20, .inl bb)), (qD6, .inl (cI, 6, .inl bm)), (qD7, .inl (cI, 20, .inl xx)), (qD8, .inl (cI, 20, .inl yy))] sz) := by
  refine Met.ofW (cc := cX0_place) (maxL := 4) (ret := none) (by decide) rfl ?_
  intro p e s m args below meth c s₁ B hml hv
  obtain ⟨rfl, hsz, hP, hD0, hK⟩ := hv
  have hx := B.exec
  have hb := B.bytes
  have hr := B.returns
  have hts := atoms_spec (ws := wsX0_place) B.pre
  have hown : s.vm.findClass RX0 = some m.cls := findClass_of_methodNamed B.named
  have hlocks := B.notSynchronized
  subst hsz
  have hD := hD0.self (sz := s.heap.size)
  generalize hAe : va_A [(qD, .inr (0, [.ref hT, .ref qD1, .ref qD2, .ref qD3, .ref qD4, .ref qD5, .ref qD6, .ref qD7, .ref qD8, .int (nI pts)])), (qD1, .inl (cI, 20, .inl kd)), (qD2, .inl (cI, 20, .inl ba)), (qD3, .inl (cI, 20, .inl ot)), (qD4, .inl (cI, 20, .inl aa)), (qD5, .inl (cI, 20, .inl bb)), (qD6, .inl (cI, 6, .inl bm)), (qD7, .inl (cI, 20, .inl xx)), (qD8, .inl (cI, 20, .inl yy))] s.heap.size = A at hD ⊢
  have hA : ∀ q : Nat, s.heap.size ≤ q → A q := fun q h => by rw [← hAe]; exact Or.inr h
  have hS : va_S A s.heap s.heap [] := va_S.rf
  have hl := lv_entry ([.ref qD, .int (nI pp)]) (n := 4) (Nat.le_of_ble_eq_true rfl)
  rw [lg_entry_eq]
  generalize (lg_sl ([.ref qD, .int (nI pp)]) ++ List.replicate (4 - (lg_sl ([.ref qD, .int (nI pp)])).length) Slot.unset).toArray = ls at hl ⊢
  have hl : lv_has ls 4 [(0, .ref qD), (1, .int (nI pp))] := hl
  refine lv_aload_n hx hb dX0_place_0 rfl (lv_at hl 0 rfl) ?_
  refine va_get (D := G) (ci := 0) (v := .ref qD2) (C := RX0) (T := TX0) (N := 10) hx hb hts (fun _ h => List.mem_cons_of_mem _ (List.mem_append_right _ h)) hown hK.1 hP 0 rfl rfl 2 (by decide) (hts (.fieldLink RX0 15 "TailorHouse$Draft" "bases" "[I") (List.mem_of_getElem? (i := 1) rfl)) (fun _ h9 => h9) rfl dX0_place_1 ?_
  refine lv_iload_n hx hb dX0_place_4 rfl (lv_at hl 1 rfl) ?_
  refine kx_ialdN hx hb hK.1 hP 2 rfl rfl pp (by omega) (by decide) dX0_place_5 ?_
  refine lv_istore_n (lv' := [(2, .int (ba pp)), (0, .ref qD), (1, .int (nI pp))]) hx hb dX0_place_6 rfl hl (by decide) rfl (fun ls hl => ?_)
  refine lv_aload_n hx hb dX0_place_7 rfl (lv_at hl 1 rfl) ?_
  refine va_get (D := G) (ci := 0) (v := .ref qD3) (C := RX0) (T := TX0) (N := 10) hx hb hts (fun _ h => List.mem_cons_of_mem _ (List.mem_append_right _ h)) hown hK.1 hP 0 rfl rfl 3 (by decide) (hts (.fieldLink RX0 18 "TailorHouse$Draft" "others" "[I") (List.mem_of_getElem? (i := 2) rfl)) (fun _ h9 => h9) rfl dX0_place_8 ?_
  refine lv_iload_n hx hb dX0_place_11 rfl (lv_at hl 2 rfl) ?_
  refine kx_ialdN hx hb hK.1 hP 3 rfl rfl pp (by omega) (by decide) dX0_place_12 ?_
  refine lv_istore_n (lv' := [(3, .int (ot pp)), (2, .int (ba pp)), (0, .ref qD), (1, .int (nI pp))]) hx hb dX0_place_13 rfl hl (by decide) rfl (fun ls hl => ?_)
  refine lv_aload_n hx hb dX0_place_14 rfl (lv_at hl 2 rfl) ?_
  refine va_get (D := G) (ci := 0) (v := .ref qD1) (C := RX0) (T := TX0) (N := 10) hx hb hts (fun _ h => List.mem_cons_of_mem _ (List.mem_append_right _ h)) hown hK.1 hP 0 rfl rfl 1 (by decide) (hts (.fieldLink RX0 9 "TailorHouse$Draft" "kinds" "[I") (List.mem_of_getElem? (i := 3) rfl)) (fun _ h9 => h9) rfl dX0_place_15 ?_
  refine lv_iload_n hx hb dX0_place_18 rfl (lv_at hl 3 rfl) ?_
  refine kx_ialdN hx hb hK.1 hP 1 rfl rfl pp (by omega) (by decide) dX0_place_19 ?_
  by_cases c_1 : kd pp = 0
  · refine lv_tableIn (off := 32) (tgt := 52) hx hb dX0_place_20 (by rw [c_1]; decide) (by rw [c_1]; decide) (by rw [c_1]; rfl) (by decide) ?_
    refine lv_aload_n hx hb dX0_place_52 rfl (lv_at hl 2 rfl) ?_
    refine lv_iload_n hx hb dX0_place_53 rfl (lv_at hl 3 rfl) ?_
    refine lv_aload_n hx hb dX0_place_54 rfl (lv_at hl 2 rfl) ?_
    refine va_get (D := G) (ci := 0) (v := .ref qD4) (C := RX0) (T := TX0) (N := 10) hx hb hts (fun _ h => List.mem_cons_of_mem _ (List.mem_append_right _ h)) hown hK.1 hP 0 rfl rfl 4 (by decide) (hts (.fieldLink RX0 21 "TailorHouse$Draft" "as" "[I") (List.mem_of_getElem? (i := 4) rfl)) (fun _ h9 => h9) rfl dX0_place_55 ?_
    refine lv_iload_n hx hb dX0_place_58 rfl (lv_at hl 3 rfl) ?_
    refine kx_ialdN hx hb hK.1 hP 4 rfl rfl pp (by omega) (by decide) dX0_place_59 ?_
    refine lv_aload_n hx hb dX0_place_60 rfl (lv_at hl 2 rfl) ?_
    refine va_get (D := G) (ci := 0) (v := .ref qD5) (C := RX0) (T := TX0) (N := 10) hx hb hts (fun _ h => List.mem_cons_of_mem _ (List.mem_append_right _ h)) hown hK.1 hP 0 rfl rfl 5 (by decide) (hts (.fieldLink RX0 24 "TailorHouse$Draft" "bs" "[I") (List.mem_of_getElem? (i := 5) rfl)) (fun _ h9 => h9) rfl dX0_place_61 ?_
    refine lv_iload_n hx hb dX0_place_64 rfl (lv_at hl 3 rfl) ?_
    refine kx_ialdN hx hb hK.1 hP 5 rfl rfl pp (by omega) (by decide) dX0_place_65 ?_
    refine kx_wv (va_runV (As := [.int (nI pp), .int (aa pp), .int (bb pp)]) (rest := []) ⟨hx, hb, hml, hown, hts⟩ (c_X0_put l G cI cZ qD hT qD1 qD2 qD3 qD4 qD5 qD6 qD7 qD8 kd ba ot aa bb bm xx yy pts (s.heap).size pp (aa pp) (bb pp) (by first | assumption | omega)) (cwV 3 hts gX0_place_X0_put rfl rfl rfl (by decide +kernel) ⟨(Nat.le_of_ble_eq_true rfl), (Nat.le_of_ble_eq_true rfl)⟩) (kx_preW hK (kx_sub 0 9 hP rfl) (kx_subD 0 9 hD rfl) 0 rfl rfl) rfl rfl hl.1 rfl (lv_room (Nat.le_of_ble_eq_true rfl)) dX0_place_66 ⟨Nat.zero_le _, Nat.zero_le _⟩) hP hD hS hA 0 9 rfl (h_X0_put cI cZ qD hT qD1 qD2 qD3 qD4 qD5 qD6 qD7 qD8 kd ba ot aa bb bm xx yy pts) (fun u H locs hw_2 hP hD hS => ?_)
    obtain ⟨xx_2, yy_2⟩ := u
    have hP : va_P G vwCl [(qD, .inr (0, [.ref hT, .ref qD1, .ref qD2, .ref qD3, .ref qD4, .ref qD5, .ref qD6, .ref qD7, .ref qD8, .int (nI pts)])), (qD1, .inl (cI, 20, .inl kd)), (qD2, .inl (cI, 20, .inl ba)), (qD3, .inl (cI, 20, .inl ot)), (qD4, .inl (cI, 20, .inl aa)), (qD5, .inl (cI, 20, .inl bb)), (qD6, .inl (cI, 6, .inl bm)), (qD7, .inl (cI, 20, .inl xx_2)), (qD8, .inl (cI, 20, .inl yy_2))] H := hP
    have hD : va_D A [(qD, .inr (0, [.ref hT, .ref qD1, .ref qD2, .ref qD3, .ref qD4, .ref qD5, .ref qD6, .ref qD7, .ref qD8, .int (nI pts)])), (qD1, .inl (cI, 20, .inl kd)), (qD2, .inl (cI, 20, .inl ba)), (qD3, .inl (cI, 20, .inl ot)), (qD4, .inl (cI, 20, .inl aa)), (qD5, .inl (cI, 20, .inl bb)), (qD6, .inl (cI, 6, .inl bm)), (qD7, .inl (cI, 20, .inl xx_2)), (qD8, .inl (cI, 20, .inl yy_2))] := hD
    have hw_2 : upd xx pp (aa pp) = xx_2 ∧ upd yy pp (bb pp) = yy_2 := hw_2
    obtain ⟨rfl, rfl⟩ := hw_2
    refine lv_goto (tgt := 197) hx hb dX0_place_69 (by decide) ?_
    exact W.vret hx hb hr (fun t ht hW => ⟨⟨((upd xx pp (aa pp)), (upd yy pp (bb pp))), rfl, by simp [kPX, kPY, c_1], by (show va_P G vwCl _ t.heap; rw [ht]; exact hP)⟩, hS.F ht⟩) hS.2.2 dX0_place_197 hlocks
  by_cases c_3 : kd pp = 1
  · refine lv_tableIn (off := 52) (tgt := 72) hx hb dX0_place_20 (by rw [c_3]; decide) (by rw [c_3]; decide) (by rw [c_3]; rfl) (by decide) ?_
    refine lv_aload_n hx hb dX0_place_72 rfl (lv_at hl 2 rfl) ?_
    refine lv_iload_n hx hb dX0_place_73 rfl (lv_at hl 3 rfl) ?_
    refine lv_aload_n hx hb dX0_place_74 rfl (lv_at hl 2 rfl) ?_
    refine va_get (D := G) (ci := 0) (v := .ref qD7) (C := RX0) (T := TX0) (N := 10) hx hb hts (fun _ h => List.mem_cons_of_mem _ (List.mem_append_right _ h)) hown hK.1 hP 0 rfl rfl 7 (by decide) (hts (.fieldLink RX0 30 "TailorHouse$Draft" "x" "[I") (List.mem_of_getElem? (i := 6) rfl)) (fun _ h9 => h9) rfl dX0_place_75 ?_
    refine lv_iload_n hx hb dX0_place_78 rfl (lv_at hl 1 rfl) ?_
    refine va_iald hx hb hK.1 hP 7 0 rfl rfl (h1 (by simp [c_1, c_3])) dX0_place_79 ?_
    refine lv_aload_n hx hb dX0_place_80 rfl (lv_at hl 2 rfl) ?_
    refine va_get (D := G) (ci := 0) (v := .ref qD4) (C := RX0) (T := TX0) (N := 10) hx hb hts (fun _ h => List.mem_cons_of_mem _ (List.mem_append_right _ h)) hown hK.1 hP 0 rfl rfl 4 (by decide) (hts (.fieldLink RX0 21 "TailorHouse$Draft" "as" "[I") (List.mem_of_getElem? (i := 4) rfl)) (fun _ h9 => h9) rfl dX0_place_81 ?_
    refine lv_iload_n hx hb dX0_place_84 rfl (lv_at hl 3 rfl) ?_
    refine kx_ialdN hx hb hK.1 hP 4 rfl rfl pp (by omega) (by decide) dX0_place_85 ?_
    refine lv_iadd hx hb dX0_place_86 ?_
    refine lv_aload_n hx hb dX0_place_87 rfl (lv_at hl 2 rfl) ?_
    refine va_get (D := G) (ci := 0) (v := .ref qD8) (C := RX0) (T := TX0) (N := 10) hx hb hts (fun _ h => List.mem_cons_of_mem _ (List.mem_append_right _ h)) hown hK.1 hP 0 rfl rfl 8 (by decide) (hts (.fieldLink RX0 33 "TailorHouse$Draft" "y" "[I") (List.mem_of_getElem? (i := 7) rfl)) (fun _ h9 => h9) rfl dX0_place_88 ?_
    refine lv_iload_n hx hb dX0_place_91 rfl (lv_at hl 1 rfl) ?_
    refine va_iald hx hb hK.1 hP 8 0 rfl rfl (h1 (by simp [c_1, c_3])) dX0_place_92 ?_
    refine lv_aload_n hx hb dX0_place_93 rfl (lv_at hl 2 rfl) ?_
    refine va_get (D := G) (ci := 0) (v := .ref qD5) (C := RX0) (T := TX0) (N := 10) hx hb hts (fun _ h => List.mem_cons_of_mem _ (List.mem_append_right _ h)) hown hK.1 hP 0 rfl rfl 5 (by decide) (hts (.fieldLink RX0 24 "TailorHouse$Draft" "bs" "[I") (List.mem_of_getElem? (i := 5) rfl)) (fun _ h9 => h9) rfl dX0_place_94 ?_
    refine lv_iload_n hx hb dX0_place_97 rfl (lv_at hl 3 rfl) ?_
    refine kx_ialdN hx hb hK.1 hP 5 rfl rfl pp (by omega) (by decide) dX0_place_98 ?_
    refine lv_iadd hx hb dX0_place_99 ?_
    refine kx_wv (va_runV (As := [.int (nI pp), .int ((xx (ba pp).toNatClampNeg) + (aa pp)), .int ((yy (ba pp).toNatClampNeg) + (bb pp))]) (rest := []) ⟨hx, hb, hml, hown, hts⟩ (c_X0_put l G cI cZ qD hT qD1 qD2 qD3 qD4 qD5 qD6 qD7 qD8 kd ba ot aa bb bm xx yy pts (s.heap).size pp ((xx (ba pp).toNatClampNeg) + (aa pp)) ((yy (ba pp).toNatClampNeg) + (bb pp)) (by first | assumption | omega)) (cwV 3 hts gX0_place_X0_put rfl rfl rfl (by decide +kernel) ⟨(Nat.le_of_ble_eq_true rfl), (Nat.le_of_ble_eq_true rfl)⟩) (kx_preW hK (kx_sub 0 9 hP rfl) (kx_subD 0 9 hD rfl) 0 rfl rfl) rfl rfl hl.1 rfl (lv_room (Nat.le_of_ble_eq_true rfl)) dX0_place_100 ⟨Nat.zero_le _, Nat.zero_le _⟩) hP hD hS hA 0 9 rfl (h_X0_put cI cZ qD hT qD1 qD2 qD3 qD4 qD5 qD6 qD7 qD8 kd ba ot aa bb bm xx yy pts) (fun u H locs hw_4 hP hD hS => ?_)
    obtain ⟨xx_4, yy_4⟩ := u
    have hP : va_P G vwCl [(qD, .inr (0, [.ref hT, .ref qD1, .ref qD2, .ref qD3, .ref qD4, .ref qD5, .ref qD6, .ref qD7, .ref qD8, .int (nI pts)])), (qD1, .inl (cI, 20, .inl kd)), (qD2, .inl (cI, 20, .inl ba)), (qD3, .inl (cI, 20, .inl ot)), (qD4, .inl (cI, 20, .inl aa)), (qD5, .inl (cI, 20, .inl bb)), (qD6, .inl (cI, 6, .inl bm)), (qD7, .inl (cI, 20, .inl xx_4)), (qD8, .inl (cI, 20, .inl yy_4))] H := hP
    have hD : va_D A [(qD, .inr (0, [.ref hT, .ref qD1, .ref qD2, .ref qD3, .ref qD4, .ref qD5, .ref qD6, .ref qD7, .ref qD8, .int (nI pts)])), (qD1, .inl (cI, 20, .inl kd)), (qD2, .inl (cI, 20, .inl ba)), (qD3, .inl (cI, 20, .inl ot)), (qD4, .inl (cI, 20, .inl aa)), (qD5, .inl (cI, 20, .inl bb)), (qD6, .inl (cI, 6, .inl bm)), (qD7, .inl (cI, 20, .inl xx_4)), (qD8, .inl (cI, 20, .inl yy_4))] := hD
    have hw_4 : upd xx pp ((xx (ba pp).toNatClampNeg) + (aa pp)) = xx_4 ∧ upd yy pp ((yy (ba pp).toNatClampNeg) + (bb pp)) = yy_4 := hw_4
    obtain ⟨rfl, rfl⟩ := hw_4
    refine lv_goto (tgt := 197) hx hb dX0_place_103 (by decide) ?_
    exact W.vret hx hb hr (fun t ht hW => ⟨⟨((upd xx pp ((xx (ba pp).toNatClampNeg) + (aa pp))), (upd yy pp ((yy (ba pp).toNatClampNeg) + (bb pp)))), rfl, by simp [kPX, kPY, c_1, c_3], by (show va_P G vwCl _ t.heap; rw [ht]; exact hP)⟩, hS.F ht⟩) hS.2.2 dX0_place_197 hlocks
  by_cases c_5 : kd pp = 2
  · refine lv_tableIn (off := 86) (tgt := 106) hx hb dX0_place_20 (by rw [c_5]; decide) (by rw [c_5]; decide) (by rw [c_5]; rfl) (by decide) ?_
    refine lv_aload_n hx hb dX0_place_106 rfl (lv_at hl 2 rfl) ?_
    refine lv_iload_n hx hb dX0_place_107 rfl (lv_at hl 3 rfl) ?_
    refine lv_aload_n hx hb dX0_place_108 rfl (lv_at hl 2 rfl) ?_
    refine va_get (D := G) (ci := 0) (v := .ref qD7) (C := RX0) (T := TX0) (N := 10) hx hb hts (fun _ h => List.mem_cons_of_mem _ (List.mem_append_right _ h)) hown hK.1 hP 0 rfl rfl 7 (by decide) (hts (.fieldLink RX0 30 "TailorHouse$Draft" "x" "[I") (List.mem_of_getElem? (i := 6) rfl)) (fun _ h9 => h9) rfl dX0_place_109 ?_
    refine lv_iload_n hx hb dX0_place_112 rfl (lv_at hl 1 rfl) ?_
    refine va_iald hx hb hK.1 hP 7 0 rfl rfl (h1 (by simp [c_1, c_3, c_5])) dX0_place_113 ?_
    refine lv_aload_n hx hb dX0_place_114 rfl (lv_at hl 2 rfl) ?_
    refine lv_iload_n hx hb dX0_place_115 rfl (lv_at hl 3 rfl) ?_
    refine kx_ri (va_runV (As := [.int (nI pp)]) (rest := [.int (xx (ba pp).toNatClampNeg), .int (nI pp), .ref qD]) ⟨hx, hb, hml, hown, hts⟩ (c_X0_part l G cI cZ qD hT qD1 qD2 qD3 qD4 qD5 qD6 qD7 qD8 kd ba ot aa bb bm xx yy pts pp (by first | assumption | omega) (h2 (by simp [c_1, c_3, c_5]))) (cwV 1 hts gX0_place_X0_part rfl rfl rfl (by decide +kernel) ⟨(Nat.le_of_ble_eq_true rfl), (Nat.le_of_ble_eq_true rfl)⟩) (kx_preR hK (kx_sub 0 9 hP rfl) 0 rfl rfl) rfl rfl hl.1 rfl (lv_room (Nat.le_of_ble_eq_true rfl)) dX0_place_116 ⟨Nat.zero_le _, Nat.zero_le _⟩) ?_
    refine lv_iadd hx hb dX0_place_119 ?_
    refine lv_aload_n hx hb dX0_place_120 rfl (lv_at hl 2 rfl) ?_
    refine va_get (D := G) (ci := 0) (v := .ref qD8) (C := RX0) (T := TX0) (N := 10) hx hb hts (fun _ h => List.mem_cons_of_mem _ (List.mem_append_right _ h)) hown hK.1 hP 0 rfl rfl 8 (by decide) (hts (.fieldLink RX0 33 "TailorHouse$Draft" "y" "[I") (List.mem_of_getElem? (i := 7) rfl)) (fun _ h9 => h9) rfl dX0_place_121 ?_
    refine lv_iload_n hx hb dX0_place_124 rfl (lv_at hl 1 rfl) ?_
    refine va_iald hx hb hK.1 hP 8 0 rfl rfl (h1 (by simp [c_1, c_3, c_5])) dX0_place_125 ?_
    refine kx_wv (va_runV (As := [.int (nI pp), .int ((xx (ba pp).toNatClampNeg) + (kPart ot aa bb bm pp)), .int (yy (ba pp).toNatClampNeg)]) (rest := []) ⟨hx, hb, hml, hown, hts⟩ (c_X0_put l G cI cZ qD hT qD1 qD2 qD3 qD4 qD5 qD6 qD7 qD8 kd ba ot aa bb bm xx yy pts (s.heap).size pp ((xx (ba pp).toNatClampNeg) + (kPart ot aa bb bm pp)) (yy (ba pp).toNatClampNeg) (by first | assumption | omega)) (cwV 3 hts gX0_place_X0_put rfl rfl rfl (by decide +kernel) ⟨(Nat.le_of_ble_eq_true rfl), (Nat.le_of_ble_eq_true rfl)⟩) (kx_preW hK (kx_sub 0 9 hP rfl) (kx_subD 0 9 hD rfl) 0 rfl rfl) rfl rfl hl.1 rfl (lv_room (Nat.le_of_ble_eq_true rfl)) dX0_place_126 ⟨Nat.zero_le _, Nat.zero_le _⟩) hP hD hS hA 0 9 rfl (h_X0_put cI cZ qD hT qD1 qD2 qD3 qD4 qD5 qD6 qD7 qD8 kd ba ot aa bb bm xx yy pts) (fun u H locs hw_6 hP hD hS => ?_)
    obtain ⟨xx_6, yy_6⟩ := u
    have hP : va_P G vwCl [(qD, .inr (0, [.ref hT, .ref qD1, .ref qD2, .ref qD3, .ref qD4, .ref qD5, .ref qD6, .ref qD7, .ref qD8, .int (nI pts)])), (qD1, .inl (cI, 20, .inl kd)), (qD2, .inl (cI, 20, .inl ba)), (qD3, .inl (cI, 20, .inl ot)), (qD4, .inl (cI, 20, .inl aa)), (qD5, .inl (cI, 20, .inl bb)), (qD6, .inl (cI, 6, .inl bm)), (qD7, .inl (cI, 20, .inl xx_6)), (qD8, .inl (cI, 20, .inl yy_6))] H := hP
    have hD : va_D A [(qD, .inr (0, [.ref hT, .ref qD1, .ref qD2, .ref qD3, .ref qD4, .ref qD5, .ref qD6, .ref qD7, .ref qD8, .int (nI pts)])), (qD1, .inl (cI, 20, .inl kd)), (qD2, .inl (cI, 20, .inl ba)), (qD3, .inl (cI, 20, .inl ot)), (qD4, .inl (cI, 20, .inl aa)), (qD5, .inl (cI, 20, .inl bb)), (qD6, .inl (cI, 6, .inl bm)), (qD7, .inl (cI, 20, .inl xx_6)), (qD8, .inl (cI, 20, .inl yy_6))] := hD
    have hw_6 : upd xx pp ((xx (ba pp).toNatClampNeg) + (kPart ot aa bb bm pp)) = xx_6 ∧ upd yy pp (yy (ba pp).toNatClampNeg) = yy_6 := hw_6
    obtain ⟨rfl, rfl⟩ := hw_6
    refine lv_goto (tgt := 197) hx hb dX0_place_129 (by decide) ?_
    exact W.vret hx hb hr (fun t ht hW => ⟨⟨((upd xx pp ((xx (ba pp).toNatClampNeg) + (kPart ot aa bb bm pp))), (upd yy pp (yy (ba pp).toNatClampNeg))), rfl, by simp [kPX, kPY, c_1, c_3, c_5], by (show va_P G vwCl _ t.heap; rw [ht]; exact hP)⟩, hS.F ht⟩) hS.2.2 dX0_place_197 hlocks
  by_cases c_7 : kd pp = 3
  · refine lv_tableIn (off := 112) (tgt := 132) hx hb dX0_place_20 (by rw [c_7]; decide) (by rw [c_7]; decide) (by rw [c_7]; rfl) (by decide) ?_
    refine lv_aload_n hx hb dX0_place_132 rfl (lv_at hl 2 rfl) ?_
    refine lv_iload_n hx hb dX0_place_133 rfl (lv_at hl 3 rfl) ?_
    refine lv_aload_n hx hb dX0_place_134 rfl (lv_at hl 2 rfl) ?_
    refine va_get (D := G) (ci := 0) (v := .ref qD7) (C := RX0) (T := TX0) (N := 10) hx hb hts (fun _ h => List.mem_cons_of_mem _ (List.mem_append_right _ h)) hown hK.1 hP 0 rfl rfl 7 (by decide) (hts (.fieldLink RX0 30 "TailorHouse$Draft" "x" "[I") (List.mem_of_getElem? (i := 6) rfl)) (fun _ h9 => h9) rfl dX0_place_135 ?_
    refine lv_iload_n hx hb dX0_place_138 rfl (lv_at hl 1 rfl) ?_
    refine va_iald hx hb hK.1 hP 7 0 rfl rfl (h1 (by simp [c_1, c_3, c_5, c_7])) dX0_place_139 ?_
    refine lv_aload_n hx hb dX0_place_140 rfl (lv_at hl 2 rfl) ?_
    refine va_get (D := G) (ci := 0) (v := .ref qD8) (C := RX0) (T := TX0) (N := 10) hx hb hts (fun _ h => List.mem_cons_of_mem _ (List.mem_append_right _ h)) hown hK.1 hP 0 rfl rfl 8 (by decide) (hts (.fieldLink RX0 33 "TailorHouse$Draft" "y" "[I") (List.mem_of_getElem? (i := 7) rfl)) (fun _ h9 => h9) rfl dX0_place_141 ?_
    refine lv_iload_n hx hb dX0_place_144 rfl (lv_at hl 1 rfl) ?_
    refine va_iald hx hb hK.1 hP 8 0 rfl rfl (h1 (by simp [c_1, c_3, c_5, c_7])) dX0_place_145 ?_
    refine lv_aload_n hx hb dX0_place_146 rfl (lv_at hl 2 rfl) ?_
    refine lv_iload_n hx hb dX0_place_147 rfl (lv_at hl 3 rfl) ?_
    refine kx_ri (va_runV (As := [.int (nI pp)]) (rest := [.int (yy (ba pp).toNatClampNeg), .int (xx (ba pp).toNatClampNeg), .int (nI pp), .ref qD]) ⟨hx, hb, hml, hown, hts⟩ (c_X0_part l G cI cZ qD hT qD1 qD2 qD3 qD4 qD5 qD6 qD7 qD8 kd ba ot aa bb bm xx yy pts pp (by first | assumption | omega) (h2 (by simp [c_1, c_3, c_5, c_7]))) (cwV 1 hts gX0_place_X0_part rfl rfl rfl (by decide +kernel) ⟨(Nat.le_of_ble_eq_true rfl), (Nat.le_of_ble_eq_true rfl)⟩) (kx_preR hK (kx_sub 0 9 hP rfl) 0 rfl rfl) rfl rfl hl.1 rfl (lv_room (Nat.le_of_ble_eq_true rfl)) dX0_place_148 ⟨Nat.zero_le _, Nat.zero_le _⟩) ?_
    refine lv_iadd hx hb dX0_place_151 ?_
    refine kx_wv (va_runV (As := [.int (nI pp), .int (xx (ba pp).toNatClampNeg), .int ((yy (ba pp).toNatClampNeg) + (kPart ot aa bb bm pp))]) (rest := []) ⟨hx, hb, hml, hown, hts⟩ (c_X0_put l G cI cZ qD hT qD1 qD2 qD3 qD4 qD5 qD6 qD7 qD8 kd ba ot aa bb bm xx yy pts (s.heap).size pp (xx (ba pp).toNatClampNeg) ((yy (ba pp).toNatClampNeg) + (kPart ot aa bb bm pp)) (by first | assumption | omega)) (cwV 3 hts gX0_place_X0_put rfl rfl rfl (by decide +kernel) ⟨(Nat.le_of_ble_eq_true rfl), (Nat.le_of_ble_eq_true rfl)⟩) (kx_preW hK (kx_sub 0 9 hP rfl) (kx_subD 0 9 hD rfl) 0 rfl rfl) rfl rfl hl.1 rfl (lv_room (Nat.le_of_ble_eq_true rfl)) dX0_place_152 ⟨Nat.zero_le _, Nat.zero_le _⟩) hP hD hS hA 0 9 rfl (h_X0_put cI cZ qD hT qD1 qD2 qD3 qD4 qD5 qD6 qD7 qD8 kd ba ot aa bb bm xx yy pts) (fun u H locs hw_8 hP hD hS => ?_)
    obtain ⟨xx_8, yy_8⟩ := u
    have hP : va_P G vwCl [(qD, .inr (0, [.ref hT, .ref qD1, .ref qD2, .ref qD3, .ref qD4, .ref qD5, .ref qD6, .ref qD7, .ref qD8, .int (nI pts)])), (qD1, .inl (cI, 20, .inl kd)), (qD2, .inl (cI, 20, .inl ba)), (qD3, .inl (cI, 20, .inl ot)), (qD4, .inl (cI, 20, .inl aa)), (qD5, .inl (cI, 20, .inl bb)), (qD6, .inl (cI, 6, .inl bm)), (qD7, .inl (cI, 20, .inl xx_8)), (qD8, .inl (cI, 20, .inl yy_8))] H := hP
    have hD : va_D A [(qD, .inr (0, [.ref hT, .ref qD1, .ref qD2, .ref qD3, .ref qD4, .ref qD5, .ref qD6, .ref qD7, .ref qD8, .int (nI pts)])), (qD1, .inl (cI, 20, .inl kd)), (qD2, .inl (cI, 20, .inl ba)), (qD3, .inl (cI, 20, .inl ot)), (qD4, .inl (cI, 20, .inl aa)), (qD5, .inl (cI, 20, .inl bb)), (qD6, .inl (cI, 6, .inl bm)), (qD7, .inl (cI, 20, .inl xx_8)), (qD8, .inl (cI, 20, .inl yy_8))] := hD
    have hw_8 : upd xx pp (xx (ba pp).toNatClampNeg) = xx_8 ∧ upd yy pp ((yy (ba pp).toNatClampNeg) + (kPart ot aa bb bm pp)) = yy_8 := hw_8
    obtain ⟨rfl, rfl⟩ := hw_8
    refine lv_goto (tgt := 197) hx hb dX0_place_155 (by decide) ?_
    exact W.vret hx hb hr (fun t ht hW => ⟨⟨((upd xx pp (xx (ba pp).toNatClampNeg)), (upd yy pp ((yy (ba pp).toNatClampNeg) + (kPart ot aa bb bm pp)))), rfl, by simp [kPX, kPY, c_1, c_3, c_5, c_7], by (show va_P G vwCl _ t.heap; rw [ht]; exact hP)⟩, hS.F ht⟩) hS.2.2 dX0_place_197 hlocks
  refine lv_tableOut (tgt := 158) hx hb dX0_place_20 (kx_out4 c_1 c_3 c_5 c_7) (by decide) ?_
  refine lv_aload_n hx hb dX0_place_158 rfl (lv_at hl 2 rfl) ?_
  refine lv_iload_n hx hb dX0_place_159 rfl (lv_at hl 3 rfl) ?_
  refine lv_aload_n hx hb dX0_place_160 rfl (lv_at hl 2 rfl) ?_
  refine va_get (D := G) (ci := 0) (v := .ref qD7) (C := RX0) (T := TX0) (N := 10) hx hb hts (fun _ h => List.mem_cons_of_mem _ (List.mem_append_right _ h)) hown hK.1 hP 0 rfl rfl 7 (by decide) (hts (.fieldLink RX0 30 "TailorHouse$Draft" "x" "[I") (List.mem_of_getElem? (i := 6) rfl)) (fun _ h9 => h9) rfl dX0_place_161 ?_
  refine lv_iload_n hx hb dX0_place_164 rfl (lv_at hl 1 rfl) ?_
  refine va_iald hx hb hK.1 hP 7 0 rfl rfl (h1 (by simp [c_1, c_3, c_5, c_7])) dX0_place_165 ?_
  refine lv_aload_n hx hb dX0_place_166 rfl (lv_at hl 2 rfl) ?_
  refine va_get (D := G) (ci := 0) (v := .ref qD7) (C := RX0) (T := TX0) (N := 10) hx hb hts (fun _ h => List.mem_cons_of_mem _ (List.mem_append_right _ h)) hown hK.1 hP 0 rfl rfl 7 (by decide) (hts (.fieldLink RX0 30 "TailorHouse$Draft" "x" "[I") (List.mem_of_getElem? (i := 6) rfl)) (fun _ h9 => h9) rfl dX0_place_167 ?_
  refine lv_iload_n hx hb dX0_place_170 rfl (lv_at hl 0 rfl) ?_
  refine va_iald hx hb hK.1 hP 7 0 rfl rfl (h4 (by simp [c_1, c_3, c_5, c_7]) (by simp [c_1, c_3, c_5, c_7]) (by simp [c_1, c_3, c_5, c_7]) (by simp [c_1, c_3, c_5, c_7])) dX0_place_171 ?_
  refine lv_iadd hx hb dX0_place_172 ?_
  refine lv_iconst (v := 2) hx hb dX0_place_173 (by decide) ?_
  refine kx_ri (va_runSN (As := [.int ((xx (ba pp).toNatClampNeg) + (xx (ot pp).toNatClampNeg)), .int 2]) (rest := [.int (nI pp), .ref qD]) ⟨hx, hb, hml, hown, hts⟩ (c_X5_divide l ((xx (ba pp).toNatClampNeg) + (xx (ot pp).toNatClampNeg)) 2) ⟨va_cnB 2 hts gX0_place_X5_divide_n73 rfl rfl rfl (hK.2 _ (List.mem_of_getElem? (i := 19) rfl)) (hts (.initialized RX5) (List.mem_of_getElem? (i := 19) rfl)) (by decide +kernel) ⟨(Nat.le_of_ble_eq_true rfl), (Nat.le_of_ble_eq_true rfl)⟩, (hts (.static yX5_divide) (List.mem_of_getElem? (i := 18) rfl)), trivial⟩ kx_preS rfl rfl hl.1 rfl (lv_room (Nat.le_of_ble_eq_true rfl)) dX0_place_174 ⟨Nat.zero_le _, Nat.zero_le _⟩) ?_
  refine lv_aload_n hx hb dX0_place_177 rfl (lv_at hl 2 rfl) ?_
  refine va_get (D := G) (ci := 0) (v := .ref qD8) (C := RX0) (T := TX0) (N := 10) hx hb hts (fun _ h => List.mem_cons_of_mem _ (List.mem_append_right _ h)) hown hK.1 hP 0 rfl rfl 8 (by decide) (hts (.fieldLink RX0 33 "TailorHouse$Draft" "y" "[I") (List.mem_of_getElem? (i := 7) rfl)) (fun _ h9 => h9) rfl dX0_place_178 ?_
  refine lv_iload_n hx hb dX0_place_181 rfl (lv_at hl 1 rfl) ?_
  refine va_iald hx hb hK.1 hP 8 0 rfl rfl (h1 (by simp [c_1, c_3, c_5, c_7])) dX0_place_182 ?_
  refine lv_aload_n hx hb dX0_place_183 rfl (lv_at hl 2 rfl) ?_
  refine va_get (D := G) (ci := 0) (v := .ref qD8) (C := RX0) (T := TX0) (N := 10) hx hb hts (fun _ h => List.mem_cons_of_mem _ (List.mem_append_right _ h)) hown hK.1 hP 0 rfl rfl 8 (by decide) (hts (.fieldLink RX0 33 "TailorHouse$Draft" "y" "[I") (List.mem_of_getElem? (i := 7) rfl)) (fun _ h9 => h9) rfl dX0_place_184 ?_
  refine lv_iload_n hx hb dX0_place_187 rfl (lv_at hl 0 rfl) ?_
  refine va_iald hx hb hK.1 hP 8 0 rfl rfl (h4 (by simp [c_1, c_3, c_5, c_7]) (by simp [c_1, c_3, c_5, c_7]) (by simp [c_1, c_3, c_5, c_7]) (by simp [c_1, c_3, c_5, c_7])) dX0_place_188 ?_
  refine lv_iadd hx hb dX0_place_189 ?_
  refine lv_iconst (v := 2) hx hb dX0_place_190 (by decide) ?_
  refine kx_ri (va_runSN (As := [.int ((yy (ba pp).toNatClampNeg) + (yy (ot pp).toNatClampNeg)), .int 2]) (rest := [.int (kdiv ((xx (ba pp).toNatClampNeg) + (xx (ot pp).toNatClampNeg)) 2), .int (nI pp), .ref qD]) ⟨hx, hb, hml, hown, hts⟩ (c_X5_divide l ((yy (ba pp).toNatClampNeg) + (yy (ot pp).toNatClampNeg)) 2) ⟨va_cnB 2 hts gX0_place_X5_divide_n73 rfl rfl rfl (hK.2 _ (List.mem_of_getElem? (i := 19) rfl)) (hts (.initialized RX5) (List.mem_of_getElem? (i := 19) rfl)) (by decide +kernel) ⟨(Nat.le_of_ble_eq_true rfl), (Nat.le_of_ble_eq_true rfl)⟩, (hts (.static yX5_divide) (List.mem_of_getElem? (i := 18) rfl)), trivial⟩ kx_preS rfl rfl hl.1 rfl (lv_room (Nat.le_of_ble_eq_true rfl)) dX0_place_191 ⟨Nat.zero_le _, Nat.zero_le _⟩) ?_
  refine kx_wv (va_runV (As := [.int (nI pp), .int (kdiv ((xx (ba pp).toNatClampNeg) + (xx (ot pp).toNatClampNeg)) 2), .int (kdiv ((yy (ba pp).toNatClampNeg) + (yy (ot pp).toNatClampNeg)) 2)]) (rest := []) ⟨hx, hb, hml, hown, hts⟩ (c_X0_put l G cI cZ qD hT qD1 qD2 qD3 qD4 qD5 qD6 qD7 qD8 kd ba ot aa bb bm xx yy pts (s.heap).size pp (kdiv ((xx (ba pp).toNatClampNeg) + (xx (ot pp).toNatClampNeg)) 2) (kdiv ((yy (ba pp).toNatClampNeg) + (yy (ot pp).toNatClampNeg)) 2) (by first | assumption | omega)) (cwV 3 hts gX0_place_X0_put rfl rfl rfl (by decide +kernel) ⟨(Nat.le_of_ble_eq_true rfl), (Nat.le_of_ble_eq_true rfl)⟩) (kx_preW hK (kx_sub 0 9 hP rfl) (kx_subD 0 9 hD rfl) 0 rfl rfl) rfl rfl hl.1 rfl (lv_room (Nat.le_of_ble_eq_true rfl)) dX0_place_194 ⟨Nat.zero_le _, Nat.zero_le _⟩) hP hD hS hA 0 9 rfl (h_X0_put cI cZ qD hT qD1 qD2 qD3 qD4 qD5 qD6 qD7 qD8 kd ba ot aa bb bm xx yy pts) (fun u H locs hw_9 hP hD hS => ?_)
  obtain ⟨xx_9, yy_9⟩ := u
  have hP : va_P G vwCl [(qD, .inr (0, [.ref hT, .ref qD1, .ref qD2, .ref qD3, .ref qD4, .ref qD5, .ref qD6, .ref qD7, .ref qD8, .int (nI pts)])), (qD1, .inl (cI, 20, .inl kd)), (qD2, .inl (cI, 20, .inl ba)), (qD3, .inl (cI, 20, .inl ot)), (qD4, .inl (cI, 20, .inl aa)), (qD5, .inl (cI, 20, .inl bb)), (qD6, .inl (cI, 6, .inl bm)), (qD7, .inl (cI, 20, .inl xx_9)), (qD8, .inl (cI, 20, .inl yy_9))] H := hP
  have hD : va_D A [(qD, .inr (0, [.ref hT, .ref qD1, .ref qD2, .ref qD3, .ref qD4, .ref qD5, .ref qD6, .ref qD7, .ref qD8, .int (nI pts)])), (qD1, .inl (cI, 20, .inl kd)), (qD2, .inl (cI, 20, .inl ba)), (qD3, .inl (cI, 20, .inl ot)), (qD4, .inl (cI, 20, .inl aa)), (qD5, .inl (cI, 20, .inl bb)), (qD6, .inl (cI, 6, .inl bm)), (qD7, .inl (cI, 20, .inl xx_9)), (qD8, .inl (cI, 20, .inl yy_9))] := hD
  have hw_9 : upd xx pp (kdiv ((xx (ba pp).toNatClampNeg) + (xx (ot pp).toNatClampNeg)) 2) = xx_9 ∧ upd yy pp (kdiv ((yy (ba pp).toNatClampNeg) + (yy (ot pp).toNatClampNeg)) 2) = yy_9 := hw_9
  obtain ⟨rfl, rfl⟩ := hw_9
  exact W.vret hx hb hr (fun t ht hW => ⟨⟨((upd xx pp (kdiv ((xx (ba pp).toNatClampNeg) + (xx (ot pp).toNatClampNeg)) 2)), (upd yy pp (kdiv ((yy (ba pp).toNatClampNeg) + (yy (ot pp).toNatClampNeg)) 2))), rfl, by simp [kPX, kPY, c_1, c_3, c_5, c_7], by (show va_P G vwCl _ t.heap; rw [ht]; exact hP)⟩, hS.F ht⟩) hS.2.2 dX0_place_197 hlocks
theorem h_X0_workOut (cI cZ : ClassId) (qD : Nat) (hT : Nat) (qD1 : Nat) (qD2 : Nat) (qD3 : Nat) (qD4 : Nat) (qD5 : Nat) (qD6 : Nat) (qD7 : Nat) (qD8 : Nat) (kd : Nat → Int32) (ba : Nat → Int32) (ot : Nat → Int32) (aa : Nat → Int32) (bb : Nat → Int32) (bm : Nat → Int32) (xx : Nat → Int32) (yy : Nat → Int32) (pts : Nat) (hT0 : Nat) (hT1 : Nat) (hT2 : Nat) (hT3 : Nat) (hT4 : Nat) (hT5 : Nat) (hd : Nat → Int32) (bd : Nat → Int32) (ms : Nat → Int32) (dy : Nat → Int32) (vl : Nat → Int32) (hbt : Nat → Int32) (told : Nat) : ∀ u, (((fun u : (Nat → Int32) × (Nat → Int32) × (Nat → Int32) => [(hT, .inr (3, [.ref hT0, .ref hT1, .ref hT2, .ref hT3, .ref hT4, .ref hT5, .int (nI told)])), (hT0, .inl (cI, 40, .inl hd)), (hT1, .inl (cI, 40, .inl bd)), (hT2, .inl (cI, 40, .inl ms)), (hT3, .inl (cI, 40, .inl dy)), (hT4, .inl (cI, 40, .inl vl)), (hT5, .inl (cI, 24, .inl hbt)), (qD, .inr (0, [.ref hT, .ref qD1, .ref qD2, .ref qD3, .ref qD4, .ref qD5, .ref qD6, .ref qD7, .ref qD8, .int (nI pts)])), (qD1, .inl (cI, 20, .inl kd)), (qD2, .inl (cI, 20, .inl ba)), (qD3, .inl (cI, 20, .inl ot)), (qD4, .inl (cI, 20, .inl aa)), (qD5, .inl (cI, 20, .inl bb)), (qD6, .inl (cI, 6, .inl u.1)), (qD7, .inl (cI, 20, .inl u.2.1)), (qD8, .inl (cI, 20, .inl u.2.2))]) : ((Nat → Int32) × (Nat → Int32) × (Nat → Int32)) → va_W) u).map Prod.fst = ([(hT, .inr (3, [.ref hT0, .ref hT1, .ref hT2, .ref hT3, .ref hT4, .ref hT5, .int (nI told)])), (hT0, .inl (cI, 40, .inl hd)), (hT1, .inl (cI, 40, .inl bd)), (hT2, .inl (cI, 40, .inl ms)), (hT3, .inl (cI, 40, .inl dy)), (hT4, .inl (cI, 40, .inl vl)), (hT5, .inl (cI, 24, .inl hbt)), (qD, .inr (0, [.ref hT, .ref qD1, .ref qD2, .ref qD3, .ref qD4, .ref qD5, .ref qD6, .ref qD7, .ref qD8, .int (nI pts)])), (qD1, .inl (cI, 20, .inl kd)), (qD2, .inl (cI, 20, .inl ba)), (qD3, .inl (cI, 20, .inl ot)), (qD4, .inl (cI, 20, .inl aa)), (qD5, .inl (cI, 20, .inl bb)), (qD6, .inl (cI, 6, .inl bm)), (qD7, .inl (cI, 20, .inl xx)), (qD8, .inl (cI, 20, .inl yy))] : va_W).map Prod.fst := fun _ => rfl
abbrev rm_X0_workOut : Room := { frames := 3, cells := 0, slots := 0, locals := 71 }
set_option maxHeartbeats 4000000 in
set_option maxRecDepth 100000 in
theorem c_X0_workOut (l : Launch) (G : va_G) (cI cZ : ClassId) (qD : Nat) (hT : Nat) (qD1 : Nat) (qD2 : Nat) (qD3 : Nat) (qD4 : Nat) (qD5 : Nat) (qD6 : Nat) (qD7 : Nat) (qD8 : Nat) (kd : Nat → Int32) (ba : Nat → Int32) (ot : Nat → Int32) (aa : Nat → Int32) (bb : Nat → Int32) (bm : Nat → Int32) (xx : Nat → Int32) (yy : Nat → Int32) (pts : Nat) (hT0 : Nat) (hT1 : Nat) (hT2 : Nat) (hT3 : Nat) (hT4 : Nat) (hT5 : Nat) (hd : Nat → Int32) (bd : Nat → Int32) (ms : Nat → Int32) (dy : Nat → Int32) (vl : Nat → Int32) (hbt : Nat → Int32) (told : Nat) (sz : Nat) (body : Int32) (hpo : pts ≤ 20) (hTo : told ≤ 40) (hTi : ∀ i, i < told → vp_in (hd i) 4) (hq1 : ∀ p, p < pts → ¬ kd p = 0 → vp_in (ba p) 20) (hq2 : ∀ p, p < pts → (kd p = 2 ∨ kd p = 3) → vp_in (ot p) 6) (hq4 : ∀ p, p < pts → ¬ kd p = 0 → ¬ kd p = 1 → ¬ kd p = 2 → ¬ kd p = 3 → vp_in (ot p) 20) : Met l yX0_workOut wsX0_workOut rm_X0_workOut (kx_Pw G cI cZ [(hT, .inr (3, [.ref hT0, .ref hT1, .ref hT2, .ref hT3, .ref hT4, .ref hT5, .int (nI told)])), (hT0, .inl (cI, 40, .inl hd)), (hT1, .inl (cI, 40, .inl bd)), (hT2, .inl (cI, 40, .inl ms)), (hT3, .inl (cI, 40, .inl dy)), (hT4, .inl (cI, 40, .inl vl)), (hT5, .inl (cI, 24, .inl hbt)), (qD, .inr (0, [.ref hT, .ref qD1, .ref qD2, .ref qD3, .ref qD4, .ref qD5, .ref qD6, .ref qD7, .ref qD8, .int (nI pts)])), (qD1, .inl (cI, 20, .inl kd)), (qD2, .inl (cI, 20, .inl ba)), (qD3, .inl (cI, 20, .inl ot)), (qD4, .inl (cI, 20, .inl aa)), (qD5, .inl (cI, 20, .inl bb)), (qD6, .inl (cI, 6, .inl bm)), (qD7, .inl (cI, 20, .inl xx)), (qD8, .inl (cI, 20, .inl yy))] sz [.ref qD, .int body]) (va_Qv (fun (u : (Nat → Int32) × (Nat → Int32) × (Nat → Int32)) => kBMu hd bd ms dy vl hbt told body bm 6 = u.1 ∧ kXs kd ba ot aa bb (kBMu hd bd ms dy vl hbt told body bm 6) xx pts = u.2.1 ∧ kYs kd ba ot aa bb (kBMu hd bd ms dy vl hbt told body bm 6) yy pts = u.2.2) (fun u t => va_P G vwCl ((fun u : (Nat → Int32) × (Nat → Int32) × (Nat → Int32) => [(hT, .inr (3, [.ref hT0, .ref hT1, .ref hT2, .ref hT3, .ref hT4, .ref hT5, .int (nI told)])), (hT0, .inl (cI, 40, .inl hd)), (hT1, .inl (cI, 40, .inl bd)), (hT2, .inl (cI, 40, .inl ms)), (hT3, .inl (cI, 40, .inl dy)), (hT4, .inl (cI, 40, .inl vl)), (hT5, .inl (cI, 24, .inl hbt)), (qD, .inr (0, [.ref hT, .ref qD1, .ref qD2, .ref qD3, .ref qD4, .ref qD5, .ref qD6, .ref qD7, .ref qD8, .int (nI pts)])), (qD1, .inl (cI, 20, .inl kd)), (qD2, .inl (cI, 20, .inl ba)), (qD3, .inl (cI, 20, .inl ot)), (qD4, .inl (cI, 20, .inl aa)), (qD5, .inl (cI, 20, .inl bb)), (qD6, .inl (cI, 6, .inl u.1)), (qD7, .inl (cI, 20, .inl u.2.1)), (qD8, .inl (cI, 20, .inl u.2.2))]) u) t.heap) (va_A [(hT, .inr (3, [.ref hT0, .ref hT1, .ref hT2, .ref hT3, .ref hT4, .ref hT5, .int (nI told)])), (hT0, .inl (cI, 40, .inl hd)), (hT1, .inl (cI, 40, .inl bd)), (hT2, .inl (cI, 40, .inl ms)), (hT3, .inl (cI, 40, .inl dy)), (hT4, .inl (cI, 40, .inl vl)), (hT5, .inl (cI, 24, .inl hbt)), (qD, .inr (0, [.ref hT, .ref qD1, .ref qD2, .ref qD3, .ref qD4, .ref qD5, .ref qD6, .ref qD7, .ref qD8, .int (nI pts)])), (qD1, .inl (cI, 20, .inl kd)), (qD2, .inl (cI, 20, .inl ba)), (qD3, .inl (cI, 20, .inl ot)), (qD4, .inl (cI, 20, .inl aa)), (qD5, .inl (cI, 20, .inl bb)), (qD6, .inl (cI, 6, .inl bm)), (qD7, .inl (cI, 20, .inl xx)), (qD8, .inl (cI, 20, .inl yy))] sz)) 0 0 (va_A [(hT, .inr (3, [.ref hT0, .ref hT1, .ref hT2, .ref hT3, .ref hT4, .ref hT5, .int (nI told)])), (hT0, .inl (cI, 40, .inl hd)), (hT1, .inl (cI, 40, .inl bd)), (hT2, .inl (cI, 40, .inl ms)), (hT3, .inl (cI, 40, .inl dy)), (hT4, .inl (cI, 40, .inl vl)), (hT5, .inl (cI, 24, .inl hbt)), (qD, .inr (0, [.ref hT, .ref qD1, .ref qD2, .ref qD3, .ref qD4, .ref qD5, .ref qD6, .ref qD7, .ref qD8, .int (nI pts)])), (qD1, .inl (cI, 20, .inl kd)), (qD2, .inl (cI, 20, .inl ba)), (qD3, .inl (cI, 20, .inl ot)), (qD4, .inl (cI, 20, .inl aa)), (qD5, .inl (cI, 20, .inl bb)), (qD6, .inl (cI, 6, .inl bm)), (qD7, .inl (cI, 20, .inl xx)), (qD8, .inl (cI, 20, .inl yy))] sz) := by
  refine Met.ofW (cc := cX0_workOut) (maxL := 3) (ret := none) (by decide) rfl ?_
  intro p e s m args below meth c s₁ B hml hv
  obtain ⟨rfl, hsz, hP, hD0, hK⟩ := hv
  have hx := B.exec
  have hb := B.bytes
  have hr := B.returns
  have hts := atoms_spec (ws := wsX0_workOut) B.pre
  have hown : s.vm.findClass RX0 = some m.cls := findClass_of_methodNamed B.named
  have hlocks := B.notSynchronized
  subst hsz
  have hD := hD0.self (sz := s.heap.size)
  generalize hAe : va_A [(hT, .inr (3, [.ref hT0, .ref hT1, .ref hT2, .ref hT3, .ref hT4, .ref hT5, .int (nI told)])), (hT0, .inl (cI, 40, .inl hd)), (hT1, .inl (cI, 40, .inl bd)), (hT2, .inl (cI, 40, .inl ms)), (hT3, .inl (cI, 40, .inl dy)), (hT4, .inl (cI, 40, .inl vl)), (hT5, .inl (cI, 24, .inl hbt)), (qD, .inr (0, [.ref hT, .ref qD1, .ref qD2, .ref qD3, .ref qD4, .ref qD5, .ref qD6, .ref qD7, .ref qD8, .int (nI pts)])), (qD1, .inl (cI, 20, .inl kd)), (qD2, .inl (cI, 20, .inl ba)), (qD3, .inl (cI, 20, .inl ot)), (qD4, .inl (cI, 20, .inl aa)), (qD5, .inl (cI, 20, .inl bb)), (qD6, .inl (cI, 6, .inl bm)), (qD7, .inl (cI, 20, .inl xx)), (qD8, .inl (cI, 20, .inl yy))] s.heap.size = A at hD ⊢
  have hA : ∀ q : Nat, s.heap.size ≤ q → A q := fun q h => by rw [← hAe]; exact Or.inr h
  have hS : va_S A s.heap s.heap [] := va_S.rf
  have hl := lv_entry ([.ref qD, .int body]) (n := 3) (Nat.le_of_ble_eq_true rfl)
  rw [lg_entry_eq]
  generalize (lg_sl ([.ref qD, .int body]) ++ List.replicate (3 - (lg_sl ([.ref qD, .int body])).length) Slot.unset).toArray = ls at hl ⊢
  have hl : lv_has ls 3 [(0, .ref qD), (1, .int body)] := hl
  refine lv_iconst (v := 0) hx hb dX0_workOut_0 (by decide) ?_
  refine lv_istore_n (lv' := [(2, .int 0), (0, .ref qD), (1, .int body)]) hx hb dX0_workOut_1 rfl hl (by decide) rfl (fun ls hl => ?_)
  have lab_2_1 : ∀ (nn_1 : Nat) (j : Nat) (z1_0 : Nat) (z1_1 : Nat → Int32) (hj : j ≤ 6) (ez1_0 : j = z1_0) (ez1_1 : (kBMu hd bd ms dy vl hbt told body bm j) = z1_1) (H : Heap) (locs : List Loc) (hP : va_P G vwCl [(hT, .inr (3, [.ref hT0, .ref hT1, .ref hT2, .ref hT3, .ref hT4, .ref hT5, .int (nI told)])), (hT0, .inl (cI, 40, .inl hd)), (hT1, .inl (cI, 40, .inl bd)), (hT2, .inl (cI, 40, .inl ms)), (hT3, .inl (cI, 40, .inl dy)), (hT4, .inl (cI, 40, .inl vl)), (hT5, .inl (cI, 24, .inl hbt)), (qD, .inr (0, [.ref hT, .ref qD1, .ref qD2, .ref qD3, .ref qD4, .ref qD5, .ref qD6, .ref qD7, .ref qD8, .int (nI pts)])), (qD1, .inl (cI, 20, .inl kd)), (qD2, .inl (cI, 20, .inl ba)), (qD3, .inl (cI, 20, .inl ot)), (qD4, .inl (cI, 20, .inl aa)), (qD5, .inl (cI, 20, .inl bb)), (qD6, .inl (cI, 6, .inl z1_1)), (qD7, .inl (cI, 20, .inl xx)), (qD8, .inl (cI, 20, .inl yy))] H) (hD : va_D A [(hT, .inr (3, [.ref hT0, .ref hT1, .ref hT2, .ref hT3, .ref hT4, .ref hT5, .int (nI told)])), (hT0, .inl (cI, 40, .inl hd)), (hT1, .inl (cI, 40, .inl bd)), (hT2, .inl (cI, 40, .inl ms)), (hT3, .inl (cI, 40, .inl dy)), (hT4, .inl (cI, 40, .inl vl)), (hT5, .inl (cI, 24, .inl hbt)), (qD, .inr (0, [.ref hT, .ref qD1, .ref qD2, .ref qD3, .ref qD4, .ref qD5, .ref qD6, .ref qD7, .ref qD8, .int (nI pts)])), (qD1, .inl (cI, 20, .inl kd)), (qD2, .inl (cI, 20, .inl ba)), (qD3, .inl (cI, 20, .inl ot)), (qD4, .inl (cI, 20, .inl aa)), (qD5, .inl (cI, 20, .inl bb)), (qD6, .inl (cI, 6, .inl z1_1)), (qD7, .inl (cI, 20, .inl xx)), (qD8, .inl (cI, 20, .inl yy))]) (hS : va_S A s.heap H locs) (ls : Array Slot) (hl : lv_has ls 3 [(2, .int (nI z1_0)), (0, .ref qD), (1, .int body)]), (6 - j) < nn_1 → W p l e (headSpec wsX0_workOut rm_X0_workOut).room s m ([.ref qD, .int body] : List Value).toArray below meth c H locs 0 0 (MQ below (va_Qv (fun (u : (Nat → Int32) × (Nat → Int32) × (Nat → Int32)) => kBMu hd bd ms dy vl hbt told body bm 6 = u.1 ∧ kXs kd ba ot aa bb (kBMu hd bd ms dy vl hbt told body bm 6) xx pts = u.2.1 ∧ kYs kd ba ot aa bb (kBMu hd bd ms dy vl hbt told body bm 6) yy pts = u.2.2) (fun u t => va_P G vwCl ((fun u : (Nat → Int32) × (Nat → Int32) × (Nat → Int32) => [(hT, .inr (3, [.ref hT0, .ref hT1, .ref hT2, .ref hT3, .ref hT4, .ref hT5, .int (nI told)])), (hT0, .inl (cI, 40, .inl hd)), (hT1, .inl (cI, 40, .inl bd)), (hT2, .inl (cI, 40, .inl ms)), (hT3, .inl (cI, 40, .inl dy)), (hT4, .inl (cI, 40, .inl vl)), (hT5, .inl (cI, 24, .inl hbt)), (qD, .inr (0, [.ref hT, .ref qD1, .ref qD2, .ref qD3, .ref qD4, .ref qD5, .ref qD6, .ref qD7, .ref qD8, .int (nI pts)])), (qD1, .inl (cI, 20, .inl kd)), (qD2, .inl (cI, 20, .inl ba)), (qD3, .inl (cI, 20, .inl ot)), (qD4, .inl (cI, 20, .inl aa)), (qD5, .inl (cI, 20, .inl bb)), (qD6, .inl (cI, 6, .inl u.1)), (qD7, .inl (cI, 20, .inl u.2.1)), (qD8, .inl (cI, 20, .inl u.2.2))]) u) t.heap) A) ([.ref qD, .int body] : List Value).toArray s 0 0 A) (F0 m 2 ls []) := by
    intro nn_1
    induction nn_1 with
    | zero => intro j z1_0 z1_1 hj ez1_0 ez1_1 H locs hP hD hS ls hl hn; exact absurd hn (Nat.not_lt_zero _)
    | succ nn_1 ih_1 =>
      intro j z1_0 z1_1 hj ez1_0 ez1_1 H locs hP hD hS ls hl hn_1
      subst ez1_0
      subst ez1_1
      refine lv_iload_n hx hb dX0_workOut_2 rfl (lv_at hl 0 rfl) ?_
      refine lv_bipush (v := 6) hx hb dX0_workOut_3 (by decide) ?_
      refine kx_geN hx hb j 6 (by omega) (by omega) (tgt := 29) dX0_workOut_5 (by decide) (fun c_2 => ?_) (fun c_2 => ?_)
      · skip
        have hE : j = 6 := by omega
        subst hE
        refine lv_iconst (v := 0) hx hb dX0_workOut_29 (by decide) ?_
        refine lv_istore_n (lv' := [(2, .int 0), (0, .ref qD), (1, .int body)]) hx hb dX0_workOut_30 rfl hl (by decide) rfl (fun ls hl => ?_)
        have lab_31_3 : ∀ (nn_3 : Nat) (i : Nat) (z3_0 : Nat) (z3_1 : Nat → Int32) (z3_2 : Nat → Int32) (hi : i ≤ pts) (ez3_0 : i = z3_0) (ez3_1 : (kXs kd ba ot aa bb (kBMu hd bd ms dy vl hbt told body bm 6) xx i) = z3_1) (ez3_2 : (kYs kd ba ot aa bb (kBMu hd bd ms dy vl hbt told body bm 6) yy i) = z3_2) (H : Heap) (locs : List Loc) (hP : va_P G vwCl [(hT, .inr (3, [.ref hT0, .ref hT1, .ref hT2, .ref hT3, .ref hT4, .ref hT5, .int (nI told)])), (hT0, .inl (cI, 40, .inl hd)), (hT1, .inl (cI, 40, .inl bd)), (hT2, .inl (cI, 40, .inl ms)), (hT3, .inl (cI, 40, .inl dy)), (hT4, .inl (cI, 40, .inl vl)), (hT5, .inl (cI, 24, .inl hbt)), (qD, .inr (0, [.ref hT, .ref qD1, .ref qD2, .ref qD3, .ref qD4, .ref qD5, .ref qD6, .ref qD7, .ref qD8, .int (nI pts)])), (qD1, .inl (cI, 20, .inl kd)), (qD2, .inl (cI, 20, .inl ba)), (qD3, .inl (cI, 20, .inl ot)), (qD4, .inl (cI, 20, .inl aa)), (qD5, .inl (cI, 20, .inl bb)), (qD6, .inl (cI, 6, .inl (kBMu hd bd ms dy vl hbt told body bm 6))), (qD7, .inl (cI, 20, .inl z3_1)), (qD8, .inl (cI, 20, .inl z3_2))] H) (hD : va_D A [(hT, .inr (3, [.ref hT0, .ref hT1, .ref hT2, .ref hT3, .ref hT4, .ref hT5, .int (nI told)])), (hT0, .inl (cI, 40, .inl hd)), (hT1, .inl (cI, 40, .inl bd)), (hT2, .inl (cI, 40, .inl ms)), (hT3, .inl (cI, 40, .inl dy)), (hT4, .inl (cI, 40, .inl vl)), (hT5, .inl (cI, 24, .inl hbt)), (qD, .inr (0, [.ref hT, .ref qD1, .ref qD2, .ref qD3, .ref qD4, .ref qD5, .ref qD6, .ref qD7, .ref qD8, .int (nI pts)])), (qD1, .inl (cI, 20, .inl kd)), (qD2, .inl (cI, 20, .inl ba)), (qD3, .inl (cI, 20, .inl ot)), (qD4, .inl (cI, 20, .inl aa)), (qD5, .inl (cI, 20, .inl bb)), (qD6, .inl (cI, 6, .inl (kBMu hd bd ms dy vl hbt told body bm 6))), (qD7, .inl (cI, 20, .inl z3_1)), (qD8, .inl (cI, 20, .inl z3_2))]) (hS : va_S A s.heap H locs) (ls : Array Slot) (hl : lv_has ls 3 [(2, .int (nI z3_0)), (0, .ref qD), (1, .int body)]), (pts - i) < nn_3 → W p l e (headSpec wsX0_workOut rm_X0_workOut).room s m ([.ref qD, .int body] : List Value).toArray below meth c H locs 0 0 (MQ below (va_Qv (fun (u : (Nat → Int32) × (Nat → Int32) × (Nat → Int32)) => kBMu hd bd ms dy vl hbt told body bm 6 = u.1 ∧ kXs kd ba ot aa bb (kBMu hd bd ms dy vl hbt told body bm 6) xx pts = u.2.1 ∧ kYs kd ba ot aa bb (kBMu hd bd ms dy vl hbt told body bm 6) yy pts = u.2.2) (fun u t => va_P G vwCl ((fun u : (Nat → Int32) × (Nat → Int32) × (Nat → Int32) => [(hT, .inr (3, [.ref hT0, .ref hT1, .ref hT2, .ref hT3, .ref hT4, .ref hT5, .int (nI told)])), (hT0, .inl (cI, 40, .inl hd)), (hT1, .inl (cI, 40, .inl bd)), (hT2, .inl (cI, 40, .inl ms)), (hT3, .inl (cI, 40, .inl dy)), (hT4, .inl (cI, 40, .inl vl)), (hT5, .inl (cI, 24, .inl hbt)), (qD, .inr (0, [.ref hT, .ref qD1, .ref qD2, .ref qD3, .ref qD4, .ref qD5, .ref qD6, .ref qD7, .ref qD8, .int (nI pts)])), (qD1, .inl (cI, 20, .inl kd)), (qD2, .inl (cI, 20, .inl ba)), (qD3, .inl (cI, 20, .inl ot)), (qD4, .inl (cI, 20, .inl aa)), (qD5, .inl (cI, 20, .inl bb)), (qD6, .inl (cI, 6, .inl u.1)), (qD7, .inl (cI, 20, .inl u.2.1)), (qD8, .inl (cI, 20, .inl u.2.2))]) u) t.heap) A) ([.ref qD, .int body] : List Value).toArray s 0 0 A) (F0 m 31 ls []) := by
          intro nn_3
          induction nn_3 with
          | zero => intro i z3_0 z3_1 z3_2 hi ez3_0 ez3_1 ez3_2 H locs hP hD hS ls hl hn; exact absurd hn (Nat.not_lt_zero _)
          | succ nn_3 ih_3 =>
            intro i z3_0 z3_1 z3_2 hi ez3_0 ez3_1 ez3_2 H locs hP hD hS ls hl hn_3
            subst ez3_0
            subst ez3_1
            subst ez3_2
            refine lv_iload_n hx hb dX0_workOut_31 rfl (lv_at hl 0 rfl) ?_
            refine lv_aload_n hx hb dX0_workOut_32 rfl (lv_at hl 1 rfl) ?_
            refine va_get (D := G) (ci := 0) (v := .int (nI pts)) (C := RX0) (T := TX0) (N := 10) hx hb hts (fun _ h => List.mem_cons_of_mem _ (List.mem_append_left _ (List.mem_append_right _ h))) hown hK.1 hP 7 rfl rfl 9 (by decide) (hts (.fieldLink RX0 36 "TailorHouse$Draft" "points" "I") (List.mem_of_getElem? (i := 3) rfl)) (fun _ h9 => h9) rfl dX0_workOut_33 ?_
            refine kx_geN hx hb i pts (by omega) (by omega) (tgt := 50) dX0_workOut_36 (by decide) (fun c_4 => ?_) (fun c_4 => ?_)
            · skip
              have hE : pts = i := by omega
              subst hE
              exact W.vret hx hb hr (fun t ht hW => ⟨⟨(kBMu hd bd ms dy vl hbt told body bm 6, kXs kd ba ot aa bb (kBMu hd bd ms dy vl hbt told body bm 6) xx pts, kYs kd ba ot aa bb (kBMu hd bd ms dy vl hbt told body bm 6) yy pts), rfl, ⟨rfl, rfl, rfl⟩, by (show va_P G vwCl _ t.heap; rw [ht]; exact hP)⟩, hS.F ht⟩) hS.2.2 dX0_workOut_50 hlocks
            · skip
              refine lv_aload_n hx hb dX0_workOut_39 rfl (lv_at hl 1 rfl) ?_
              refine lv_iload_n hx hb dX0_workOut_40 rfl (lv_at hl 0 rfl) ?_
              refine kx_wv (va_runV (As := [.int (nI i)]) (rest := []) ⟨hx, hb, hml, hown, hts⟩ (c_X0_place l G cI cZ qD hT qD1 qD2 qD3 qD4 qD5 qD6 qD7 qD8 kd ba ot aa bb (kBMu hd bd ms dy vl hbt told body bm 6) (kXs kd ba ot aa bb (kBMu hd bd ms dy vl hbt told body bm 6) xx i) (kYs kd ba ot aa bb (kBMu hd bd ms dy vl hbt told body bm 6) yy i) pts H.size i (by first | assumption | omega) (hq1 i (by omega)) (hq2 i (by omega)) (hq4 i (by omega))) (cwV 1 hts gX0_workOut_X0_place rfl rfl rfl (by decide +kernel) ⟨(Nat.le_of_ble_eq_true rfl), (Nat.le_of_ble_eq_true rfl)⟩) (kx_preW hK (kx_sub 7 9 hP rfl) (kx_subD 7 9 hD rfl) 0 rfl rfl) rfl rfl hl.1 rfl (lv_room (Nat.le_of_ble_eq_true rfl)) dX0_workOut_41 ⟨Nat.zero_le _, Nat.zero_le _⟩) hP hD hS hA 7 9 rfl (h_X0_place cI cZ qD hT qD1 qD2 qD3 qD4 qD5 qD6 qD7 qD8 kd ba ot aa bb (kBMu hd bd ms dy vl hbt told body bm 6) (kXs kd ba ot aa bb (kBMu hd bd ms dy vl hbt told body bm 6) xx i) (kYs kd ba ot aa bb (kBMu hd bd ms dy vl hbt told body bm 6) yy i) pts) (fun u H locs hw_5 hP hD hS => ?_)
              obtain ⟨xx_5, yy_5⟩ := u
              have hP : va_P G vwCl [(hT, .inr (3, [.ref hT0, .ref hT1, .ref hT2, .ref hT3, .ref hT4, .ref hT5, .int (nI told)])), (hT0, .inl (cI, 40, .inl hd)), (hT1, .inl (cI, 40, .inl bd)), (hT2, .inl (cI, 40, .inl ms)), (hT3, .inl (cI, 40, .inl dy)), (hT4, .inl (cI, 40, .inl vl)), (hT5, .inl (cI, 24, .inl hbt)), (qD, .inr (0, [.ref hT, .ref qD1, .ref qD2, .ref qD3, .ref qD4, .ref qD5, .ref qD6, .ref qD7, .ref qD8, .int (nI pts)])), (qD1, .inl (cI, 20, .inl kd)), (qD2, .inl (cI, 20, .inl ba)), (qD3, .inl (cI, 20, .inl ot)), (qD4, .inl (cI, 20, .inl aa)), (qD5, .inl (cI, 20, .inl bb)), (qD6, .inl (cI, 6, .inl (kBMu hd bd ms dy vl hbt told body bm 6))), (qD7, .inl (cI, 20, .inl xx_5)), (qD8, .inl (cI, 20, .inl yy_5))] H := hP
              have hD : va_D A [(hT, .inr (3, [.ref hT0, .ref hT1, .ref hT2, .ref hT3, .ref hT4, .ref hT5, .int (nI told)])), (hT0, .inl (cI, 40, .inl hd)), (hT1, .inl (cI, 40, .inl bd)), (hT2, .inl (cI, 40, .inl ms)), (hT3, .inl (cI, 40, .inl dy)), (hT4, .inl (cI, 40, .inl vl)), (hT5, .inl (cI, 24, .inl hbt)), (qD, .inr (0, [.ref hT, .ref qD1, .ref qD2, .ref qD3, .ref qD4, .ref qD5, .ref qD6, .ref qD7, .ref qD8, .int (nI pts)])), (qD1, .inl (cI, 20, .inl kd)), (qD2, .inl (cI, 20, .inl ba)), (qD3, .inl (cI, 20, .inl ot)), (qD4, .inl (cI, 20, .inl aa)), (qD5, .inl (cI, 20, .inl bb)), (qD6, .inl (cI, 6, .inl (kBMu hd bd ms dy vl hbt told body bm 6))), (qD7, .inl (cI, 20, .inl xx_5)), (qD8, .inl (cI, 20, .inl yy_5))] := hD
              have hw_5 : upd (kXs kd ba ot aa bb (kBMu hd bd ms dy vl hbt told body bm 6) xx i) i (kPX kd ba ot aa bb (kBMu hd bd ms dy vl hbt told body bm 6) (kXs kd ba ot aa bb (kBMu hd bd ms dy vl hbt told body bm 6) xx i) i) = xx_5 ∧ upd (kYs kd ba ot aa bb (kBMu hd bd ms dy vl hbt told body bm 6) yy i) i (kPY kd ba ot aa bb (kBMu hd bd ms dy vl hbt told body bm 6) (kYs kd ba ot aa bb (kBMu hd bd ms dy vl hbt told body bm 6) yy i) i) = yy_5 := hw_5
              obtain ⟨rfl, rfl⟩ := hw_5
              refine lv_iinc (v := nI (i + 1)) (lv' := [(2, .int (nI (i + 1))), (0, .ref qD), (1, .int body)]) hx hb dX0_workOut_44 hl (k := 0) rfl (nI_1 i) (by decide) rfl (fun ls hl => ?_)
              refine lv_goto (tgt := 31) hx hb dX0_workOut_47 (by decide) ?_
              exact ih_3 (i + 1) (i + 1) (upd (kXs kd ba ot aa bb (kBMu hd bd ms dy vl hbt told body bm 6) xx i) i (kPX kd ba ot aa bb (kBMu hd bd ms dy vl hbt told body bm 6) (kXs kd ba ot aa bb (kBMu hd bd ms dy vl hbt told body bm 6) xx i) i)) (upd (kYs kd ba ot aa bb (kBMu hd bd ms dy vl hbt told body bm 6) yy i) i (kPY kd ba ot aa bb (kBMu hd bd ms dy vl hbt told body bm 6) (kYs kd ba ot aa bb (kBMu hd bd ms dy vl hbt told body bm 6) yy i) i)) (by omega) rfl (rfl) (rfl) _ _ hP hD hS ls (lv_sub hl [0, 1, 2] rfl) (by omega)
        exact lab_31_3 ((pts - 0) + 1) 0 0 xx yy (by omega) rfl (rfl) (rfl) _ _ hP hD hS ls (lv_sub hl [0, 1, 2] rfl) (Nat.lt_succ_self _)
      · skip
        refine lv_aload_n hx hb dX0_workOut_8 rfl (lv_at hl 1 rfl) ?_
        refine va_get (D := G) (ci := 0) (v := .ref qD6) (C := RX0) (T := TX0) (N := 10) hx hb hts (fun _ h => List.mem_cons_of_mem _ (List.mem_append_left _ (List.mem_append_right _ h))) hown hK.1 hP 7 rfl rfl 6 (by decide) (hts (.fieldLink RX0 27 "TailorHouse$Draft" "bodyMeasures" "[I") (List.mem_of_getElem? (i := 1) rfl)) (fun _ h9 => h9) rfl dX0_workOut_9 ?_
        refine lv_iload_n hx hb dX0_workOut_12 rfl (lv_at hl 0 rfl) ?_
        refine lv_aload_n hx hb dX0_workOut_13 rfl (lv_at hl 1 rfl) ?_
        refine va_get (D := G) (ci := 0) (v := .ref hT) (C := RX0) (T := TX0) (N := 10) hx hb hts (fun _ h => List.mem_cons_of_mem _ (List.mem_append_left _ (List.mem_append_right _ h))) hown hK.1 hP 7 rfl rfl 0 (by decide) (hts (.fieldLink RX0 40 "TailorHouse$Draft" "tellings" "LTailorHouse$Tellings;") (List.mem_of_getElem? (i := 2) rfl)) (fun _ h9 => h9) rfl dX0_workOut_14 ?_
        refine lv_iload_n hx hb dX0_workOut_17 rfl (lv_at hl 2 rfl) ?_
        refine lv_iload_n hx hb dX0_workOut_18 rfl (lv_at hl 0 rfl) ?_
        refine kx_ri (va_runV (As := [.int body, .int (nI j)]) (rest := [.int (nI j), .ref qD6]) ⟨hx, hb, hml, hown, hts⟩ (c_X3_latest l G cI cZ hT hT0 hT1 hT2 hT3 hT4 hT5 hd bd ms dy vl hbt told body (nI j) (by first | assumption | omega) (by first | assumption | omega) (vp_in_nI (by omega) (by decide))) (cwV 2 hts gX0_workOut_X3_latest rfl rfl rfl (by decide +kernel) ⟨(Nat.le_of_ble_eq_true rfl), (Nat.le_of_ble_eq_true rfl)⟩) (kx_preR hK (kx_sub 0 7 hP rfl) 0 rfl rfl) rfl rfl hl.1 rfl (lv_room (Nat.le_of_ble_eq_true rfl)) dX0_workOut_19 ⟨Nat.zero_le _, Nat.zero_le _⟩) ?_
        refine kx_iastN hx hb hK.1 hP hD hS 13 rfl rfl j (by omega) (by decide) dX0_workOut_22 (fun H locs hP hD hS => ?_)
        have hP : va_P G vwCl [(hT, .inr (3, [.ref hT0, .ref hT1, .ref hT2, .ref hT3, .ref hT4, .ref hT5, .int (nI told)])), (hT0, .inl (cI, 40, .inl hd)), (hT1, .inl (cI, 40, .inl bd)), (hT2, .inl (cI, 40, .inl ms)), (hT3, .inl (cI, 40, .inl dy)), (hT4, .inl (cI, 40, .inl vl)), (hT5, .inl (cI, 24, .inl hbt)), (qD, .inr (0, [.ref hT, .ref qD1, .ref qD2, .ref qD3, .ref qD4, .ref qD5, .ref qD6, .ref qD7, .ref qD8, .int (nI pts)])), (qD1, .inl (cI, 20, .inl kd)), (qD2, .inl (cI, 20, .inl ba)), (qD3, .inl (cI, 20, .inl ot)), (qD4, .inl (cI, 20, .inl aa)), (qD5, .inl (cI, 20, .inl bb)), (qD6, .inl (cI, 6, .inl (upd (kBMu hd bd ms dy vl hbt told body bm j) j (kLatest hd bd ms dy vl hbt told body (nI j))))), (qD7, .inl (cI, 20, .inl xx)), (qD8, .inl (cI, 20, .inl yy))] H := hP
        have hD : va_D A [(hT, .inr (3, [.ref hT0, .ref hT1, .ref hT2, .ref hT3, .ref hT4, .ref hT5, .int (nI told)])), (hT0, .inl (cI, 40, .inl hd)), (hT1, .inl (cI, 40, .inl bd)), (hT2, .inl (cI, 40, .inl ms)), (hT3, .inl (cI, 40, .inl dy)), (hT4, .inl (cI, 40, .inl vl)), (hT5, .inl (cI, 24, .inl hbt)), (qD, .inr (0, [.ref hT, .ref qD1, .ref qD2, .ref qD3, .ref qD4, .ref qD5, .ref qD6, .ref qD7, .ref qD8, .int (nI pts)])), (qD1, .inl (cI, 20, .inl kd)), (qD2, .inl (cI, 20, .inl ba)), (qD3, .inl (cI, 20, .inl ot)), (qD4, .inl (cI, 20, .inl aa)), (qD5, .inl (cI, 20, .inl bb)), (qD6, .inl (cI, 6, .inl (upd (kBMu hd bd ms dy vl hbt told body bm j) j (kLatest hd bd ms dy vl hbt told body (nI j))))), (qD7, .inl (cI, 20, .inl xx)), (qD8, .inl (cI, 20, .inl yy))] := hD
        refine lv_iinc (v := nI (j + 1)) (lv' := [(2, .int (nI (j + 1))), (0, .ref qD), (1, .int body)]) hx hb dX0_workOut_23 hl (k := 0) rfl (nI_1 j) (by decide) rfl (fun ls hl => ?_)
        refine lv_goto (tgt := 2) hx hb dX0_workOut_26 (by decide) ?_
        exact ih_1 (j + 1) (j + 1) (upd (kBMu hd bd ms dy vl hbt told body bm j) j (kLatest hd bd ms dy vl hbt told body (nI j))) (by omega) rfl (rfl) _ _ hP hD hS ls (lv_sub hl [0, 1, 2] rfl) (by omega)
  exact lab_2_1 ((6 - 0) + 1) 0 0 bm (by omega) rfl (rfl) _ _ hP hD hS ls (lv_sub hl [0, 1, 2] rfl) (Nat.lt_succ_self _)
abbrev rm_X0_isOn : Room := { frames := 0, cells := 0, slots := 0, locals := 0 }
set_option maxHeartbeats 4000000 in
set_option maxRecDepth 100000 in
theorem c_X0_isOn (l : Launch) (G : va_G) (cI cZ : ClassId) (qD : Nat) (hT : Nat) (qD1 : Nat) (qD2 : Nat) (qD3 : Nat) (qD4 : Nat) (qD5 : Nat) (qD6 : Nat) (qD7 : Nat) (qD8 : Nat) (kd : Nat → Int32) (ba : Nat → Int32) (ot : Nat → Int32) (aa : Nat → Int32) (bb : Nat → Int32) (bm : Nat → Int32) (xx : Nat → Int32) (yy : Nat → Int32) (pts : Nat) (pp : Nat) (measure : Int32) (bits : Int32) (hp : pp < 20) : Met l yX0_isOn wsX0_isOn rm_X0_isOn (kx_Pr G cI cZ [(qD, .inr (0, [.ref hT, .ref qD1, .ref qD2, .ref qD3, .ref qD4, .ref qD5, .ref qD6, .ref qD7, .ref qD8, .int (nI pts)])), (qD1, .inl (cI, 20, .inl kd)), (qD2, .inl (cI, 20, .inl ba)), (qD3, .inl (cI, 20, .inl ot)), (qD4, .inl (cI, 20, .inl aa)), (qD5, .inl (cI, 20, .inl bb)), (qD6, .inl (cI, 6, .inl bm)), (qD7, .inl (cI, 20, .inl xx)), (qD8, .inl (cI, 20, .inl yy))] [.ref qD, .int (nI pp), .int measure, .int bits]) (QcRead (kb (kOnP kd ba ot pp measure bits))) 0 0 (fun _ => False) := by
  refine Met.ofW (cc := cX0_isOn) (maxL := 5) (ret := (some .boolean)) (by decide) rfl ?_
  intro p e s m args below meth c s₁ B hml hv
  obtain ⟨rfl, hP, hK⟩ := hv
  have hx := B.exec
  have hb := B.bytes
  have hr := B.returns
  have hts := atoms_spec (ws := wsX0_isOn) B.pre
  have hown : s.vm.findClass RX0 = some m.cls := findClass_of_methodNamed B.named
  have hlocks := B.notSynchronized
  have hl := lv_entry ([.ref qD, .int (nI pp), .int measure, .int bits]) (n := 5) (Nat.le_of_ble_eq_true rfl)
  rw [lg_entry_eq]
  generalize (lg_sl ([.ref qD, .int (nI pp), .int measure, .int bits]) ++ List.replicate (5 - (lg_sl ([.ref qD, .int (nI pp), .int measure, .int bits])).length) Slot.unset).toArray = ls at hl ⊢
  have hl : lv_has ls 5 [(0, .ref qD), (1, .int (nI pp)), (2, .int measure), (3, .int bits)] := hl
  refine lv_iload_n hx hb dX0_isOn_0 rfl (lv_at hl 3 rfl) ?_
  refine lv_aload_n hx hb dX0_isOn_1 rfl (lv_at hl 0 rfl) ?_
  refine va_get (D := G) (ci := 0) (v := .ref qD2) (C := RX0) (T := TX0) (N := 10) hx hb hts (fun _ h => List.mem_cons_of_mem _ (List.mem_append_right _ h)) hown hK.1 hP 0 rfl rfl 2 (by decide) (hts (.fieldLink RX0 15 "TailorHouse$Draft" "bases" "[I") (List.mem_of_getElem? (i := 1) rfl)) (fun _ h9 => h9) rfl dX0_isOn_2 ?_
  refine lv_iload_n hx hb dX0_isOn_5 rfl (lv_at hl 1 rfl) ?_
  refine kx_ialdN hx hb hK.1 hP 2 rfl rfl pp (by omega) (by decide) dX0_isOn_6 ?_
  refine lv_ishr hx hb dX0_isOn_7 ?_
  refine lv_iconst (v := 1) hx hb dX0_isOn_8 (by decide) ?_
  refine lv_iand hx hb dX0_isOn_9 ?_
  refine lv_iconst (v := 1) hx hb dX0_isOn_10 (by decide) ?_
  refine lv_icmp_ne (tgt := 18) hx hb dX0_isOn_11 (by decide) (fun c_1 => ?_) (fun c_1 => ?_)
  · skip
    refine lv_iconst (v := 0) hx hb dX0_isOn_18 (by decide) ?_
    refine lv_istore (lv' := [(4, .int 0), (0, .ref qD), (1, .int (nI pp)), (2, .int measure), (3, .int bits)]) hx hb dX0_isOn_19 hl (by decide) rfl (fun ls hl => ?_)
    refine lv_aload_n hx hb dX0_isOn_21 rfl (lv_at hl 1 rfl) ?_
    refine va_get (D := G) (ci := 0) (v := .ref qD1) (C := RX0) (T := TX0) (N := 10) hx hb hts (fun _ h => List.mem_cons_of_mem _ (List.mem_append_right _ h)) hown hK.1 hP 0 rfl rfl 1 (by decide) (hts (.fieldLink RX0 9 "TailorHouse$Draft" "kinds" "[I") (List.mem_of_getElem? (i := 2) rfl)) (fun _ h9 => h9) rfl dX0_isOn_22 ?_
    refine lv_iload_n hx hb dX0_isOn_25 rfl (lv_at hl 2 rfl) ?_
    refine kx_ialdN hx hb hK.1 hP 1 rfl rfl pp (by omega) (by decide) dX0_isOn_26 ?_
    by_cases c_2 : kd pp = 0
    · refine lv_tableIn (off := 33) (tgt := 60) hx hb dX0_isOn_27 (by rw [c_2]; decide) (by rw [c_2]; decide) (by rw [c_2]; rfl) (by decide) ?_
      refine lv_iconst (v := 0) hx hb dX0_isOn_60 (by decide) ?_
      exact kx_zret hx hb hr (v := 0) (by simp [kb, kOnP, c_1, c_2]) dX0_isOn_61 hlocks
    by_cases c_3 : kd pp = 1
    · refine lv_tableIn (off := 35) (tgt := 62) hx hb dX0_isOn_27 (by rw [c_3]; decide) (by rw [c_3]; decide) (by rw [c_3]; rfl) (by decide) ?_
      refine lv_iload hx hb dX0_isOn_62 (lv_at hl 0 rfl) ?_
      exact kx_zret hx hb hr (v := 0) (by simp [kb, kOnP, c_1, c_2, c_3]) dX0_isOn_64 hlocks
    by_cases c_4 : kd pp = 2
    · refine lv_tableIn (off := 63) (tgt := 90) hx hb dX0_isOn_27 (by rw [c_4]; decide) (by rw [c_4]; decide) (by rw [c_4]; rfl) (by decide) ?_
      refine lv_iload hx hb dX0_isOn_90 (lv_at hl 0 rfl) ?_
      refine lv_if_ne (tgt := 105) hx hb dX0_isOn_92 (by decide) (fun c_5 => ?_) (fun c_5 => ?_)
      · exact absurd c_5 (by decide)
      · skip
        refine lv_aload_n hx hb dX0_isOn_95 rfl (lv_at hl 1 rfl) ?_
        refine va_get (D := G) (ci := 0) (v := .ref qD3) (C := RX0) (T := TX0) (N := 10) hx hb hts (fun _ h => List.mem_cons_of_mem _ (List.mem_append_right _ h)) hown hK.1 hP 0 rfl rfl 3 (by decide) (hts (.fieldLink RX0 18 "TailorHouse$Draft" "others" "[I") (List.mem_of_getElem? (i := 3) rfl)) (fun _ h9 => h9) rfl dX0_isOn_96 ?_
        refine lv_iload_n hx hb dX0_isOn_99 rfl (lv_at hl 2 rfl) ?_
        refine kx_ialdN hx hb hK.1 hP 3 rfl rfl pp (by omega) (by decide) dX0_isOn_100 ?_
        refine lv_iload_n hx hb dX0_isOn_101 rfl (lv_at hl 3 rfl) ?_
        refine lv_icmp_ne (tgt := 109) hx hb dX0_isOn_102 (by decide) (fun c_6 => ?_) (fun c_6 => ?_)
        · skip
          refine lv_iconst (v := 0) hx hb dX0_isOn_109 (by decide) ?_
          exact kx_zret hx hb hr (v := 0) (by simp [kb, kOnP, c_1, c_2, c_3, c_4, c_5, c_6]) dX0_isOn_110 hlocks
        · skip
          refine lv_iconst (v := 1) hx hb dX0_isOn_105 (by decide) ?_
          refine lv_goto (tgt := 110) hx hb dX0_isOn_106 (by decide) ?_
          exact kx_zret hx hb hr (v := 1) (by simp [kb, kOnP, c_1, c_2, c_3, c_4, c_5, c_6]) dX0_isOn_110 hlocks
    by_cases c_7 : kd pp = 3
    · refine lv_tableIn (off := 63) (tgt := 90) hx hb dX0_isOn_27 (by rw [c_7]; decide) (by rw [c_7]; decide) (by rw [c_7]; rfl) (by decide) ?_
      refine lv_iload hx hb dX0_isOn_90 (lv_at hl 0 rfl) ?_
      refine lv_if_ne (tgt := 105) hx hb dX0_isOn_92 (by decide) (fun c_8 => ?_) (fun c_8 => ?_)
      · exact absurd c_8 (by decide)
      · skip
        refine lv_aload_n hx hb dX0_isOn_95 rfl (lv_at hl 1 rfl) ?_
        refine va_get (D := G) (ci := 0) (v := .ref qD3) (C := RX0) (T := TX0) (N := 10) hx hb hts (fun _ h => List.mem_cons_of_mem _ (List.mem_append_right _ h)) hown hK.1 hP 0 rfl rfl 3 (by decide) (hts (.fieldLink RX0 18 "TailorHouse$Draft" "others" "[I") (List.mem_of_getElem? (i := 3) rfl)) (fun _ h9 => h9) rfl dX0_isOn_96 ?_
        refine lv_iload_n hx hb dX0_isOn_99 rfl (lv_at hl 2 rfl) ?_
        refine kx_ialdN hx hb hK.1 hP 3 rfl rfl pp (by omega) (by decide) dX0_isOn_100 ?_
        refine lv_iload_n hx hb dX0_isOn_101 rfl (lv_at hl 3 rfl) ?_
        refine lv_icmp_ne (tgt := 109) hx hb dX0_isOn_102 (by decide) (fun c_9 => ?_) (fun c_9 => ?_)
        · skip
          refine lv_iconst (v := 0) hx hb dX0_isOn_109 (by decide) ?_
          exact kx_zret hx hb hr (v := 0) (by simp [kb, kOnP, c_1, c_2, c_3, c_4, c_7, c_8, c_9]) dX0_isOn_110 hlocks
        · skip
          refine lv_iconst (v := 1) hx hb dX0_isOn_105 (by decide) ?_
          refine lv_goto (tgt := 110) hx hb dX0_isOn_106 (by decide) ?_
          exact kx_zret hx hb hr (v := 1) (by simp [kb, kOnP, c_1, c_2, c_3, c_4, c_7, c_8, c_9]) dX0_isOn_110 hlocks
    by_cases c_10 : kd pp = 4
    · refine lv_tableIn (off := 38) (tgt := 65) hx hb dX0_isOn_27 (by rw [c_10]; decide) (by rw [c_10]; decide) (by rw [c_10]; rfl) (by decide) ?_
      refine lv_iload hx hb dX0_isOn_65 (lv_at hl 0 rfl) ?_
      refine lv_if_ne (tgt := 84) hx hb dX0_isOn_67 (by decide) (fun c_11 => ?_) (fun c_11 => ?_)
      · exact absurd c_11 (by decide)
      · skip
        refine lv_iload_n hx hb dX0_isOn_70 rfl (lv_at hl 4 rfl) ?_
        refine lv_aload_n hx hb dX0_isOn_71 rfl (lv_at hl 1 rfl) ?_
        refine va_get (D := G) (ci := 0) (v := .ref qD3) (C := RX0) (T := TX0) (N := 10) hx hb hts (fun _ h => List.mem_cons_of_mem _ (List.mem_append_right _ h)) hown hK.1 hP 0 rfl rfl 3 (by decide) (hts (.fieldLink RX0 18 "TailorHouse$Draft" "others" "[I") (List.mem_of_getElem? (i := 3) rfl)) (fun _ h9 => h9) rfl dX0_isOn_72 ?_
        refine lv_iload_n hx hb dX0_isOn_75 rfl (lv_at hl 2 rfl) ?_
        refine kx_ialdN hx hb hK.1 hP 3 rfl rfl pp (by omega) (by decide) dX0_isOn_76 ?_
        refine lv_ishr hx hb dX0_isOn_77 ?_
        refine lv_iconst (v := 1) hx hb dX0_isOn_78 (by decide) ?_
        refine lv_iand hx hb dX0_isOn_79 ?_
        refine lv_iconst (v := 1) hx hb dX0_isOn_80 (by decide) ?_
        refine lv_icmp_ne (tgt := 88) hx hb dX0_isOn_81 (by decide) (fun c_12 => ?_) (fun c_12 => ?_)
        · skip
          refine lv_iconst (v := 0) hx hb dX0_isOn_88 (by decide) ?_
          exact kx_zret hx hb hr (v := 0) (by simp [kb, kOnP, c_1, c_2, c_3, c_4, c_7, c_10, c_11, c_12]) dX0_isOn_89 hlocks
        · skip
          refine lv_iconst (v := 1) hx hb dX0_isOn_84 (by decide) ?_
          refine lv_goto (tgt := 89) hx hb dX0_isOn_85 (by decide) ?_
          exact kx_zret hx hb hr (v := 1) (by simp [kb, kOnP, c_1, c_2, c_3, c_4, c_7, c_10, c_11, c_12]) dX0_isOn_89 hlocks
    refine lv_tableOut (tgt := 90) hx hb dX0_isOn_27 (kx_out5 c_2 c_3 c_4 c_7 c_10) (by decide) ?_
    refine lv_iload hx hb dX0_isOn_90 (lv_at hl 0 rfl) ?_
    refine lv_if_ne (tgt := 105) hx hb dX0_isOn_92 (by decide) (fun c_13 => ?_) (fun c_13 => ?_)
    · exact absurd c_13 (by decide)
    · skip
      refine lv_aload_n hx hb dX0_isOn_95 rfl (lv_at hl 1 rfl) ?_
      refine va_get (D := G) (ci := 0) (v := .ref qD3) (C := RX0) (T := TX0) (N := 10) hx hb hts (fun _ h => List.mem_cons_of_mem _ (List.mem_append_right _ h)) hown hK.1 hP 0 rfl rfl 3 (by decide) (hts (.fieldLink RX0 18 "TailorHouse$Draft" "others" "[I") (List.mem_of_getElem? (i := 3) rfl)) (fun _ h9 => h9) rfl dX0_isOn_96 ?_
      refine lv_iload_n hx hb dX0_isOn_99 rfl (lv_at hl 2 rfl) ?_
      refine kx_ialdN hx hb hK.1 hP 3 rfl rfl pp (by omega) (by decide) dX0_isOn_100 ?_
      refine lv_iload_n hx hb dX0_isOn_101 rfl (lv_at hl 3 rfl) ?_
      refine lv_icmp_ne (tgt := 109) hx hb dX0_isOn_102 (by decide) (fun c_14 => ?_) (fun c_14 => ?_)
      · skip
        refine lv_iconst (v := 0) hx hb dX0_isOn_109 (by decide) ?_
        exact kx_zret hx hb hr (v := 0) (by simp [kb, kOnP, c_1, c_2, c_3, c_4, c_7, c_10, c_13, c_14]) dX0_isOn_110 hlocks
      · skip
        refine lv_iconst (v := 1) hx hb dX0_isOn_105 (by decide) ?_
        refine lv_goto (tgt := 110) hx hb dX0_isOn_106 (by decide) ?_
        exact kx_zret hx hb hr (v := 1) (by simp [kb, kOnP, c_1, c_2, c_3, c_4, c_7, c_10, c_13, c_14]) dX0_isOn_110 hlocks
  · skip
    refine lv_iconst (v := 1) hx hb dX0_isOn_14 (by decide) ?_
    refine lv_goto (tgt := 19) hx hb dX0_isOn_15 (by decide) ?_
    refine lv_istore (lv' := [(4, .int 1), (0, .ref qD), (1, .int (nI pp)), (2, .int measure), (3, .int bits)]) hx hb dX0_isOn_19 hl (by decide) rfl (fun ls hl => ?_)
    refine lv_aload_n hx hb dX0_isOn_21 rfl (lv_at hl 1 rfl) ?_
    refine va_get (D := G) (ci := 0) (v := .ref qD1) (C := RX0) (T := TX0) (N := 10) hx hb hts (fun _ h => List.mem_cons_of_mem _ (List.mem_append_right _ h)) hown hK.1 hP 0 rfl rfl 1 (by decide) (hts (.fieldLink RX0 9 "TailorHouse$Draft" "kinds" "[I") (List.mem_of_getElem? (i := 2) rfl)) (fun _ h9 => h9) rfl dX0_isOn_22 ?_
    refine lv_iload_n hx hb dX0_isOn_25 rfl (lv_at hl 2 rfl) ?_
    refine kx_ialdN hx hb hK.1 hP 1 rfl rfl pp (by omega) (by decide) dX0_isOn_26 ?_
    by_cases c_15 : kd pp = 0
    · refine lv_tableIn (off := 33) (tgt := 60) hx hb dX0_isOn_27 (by rw [c_15]; decide) (by rw [c_15]; decide) (by rw [c_15]; rfl) (by decide) ?_
      refine lv_iconst (v := 0) hx hb dX0_isOn_60 (by decide) ?_
      exact kx_zret hx hb hr (v := 0) (by simp [kb, kOnP, c_1, c_15]) dX0_isOn_61 hlocks
    by_cases c_16 : kd pp = 1
    · refine lv_tableIn (off := 35) (tgt := 62) hx hb dX0_isOn_27 (by rw [c_16]; decide) (by rw [c_16]; decide) (by rw [c_16]; rfl) (by decide) ?_
      refine lv_iload hx hb dX0_isOn_62 (lv_at hl 0 rfl) ?_
      exact kx_zret hx hb hr (v := 1) (by simp [kb, kOnP, c_1, c_15, c_16]) dX0_isOn_64 hlocks
    by_cases c_17 : kd pp = 2
    · refine lv_tableIn (off := 63) (tgt := 90) hx hb dX0_isOn_27 (by rw [c_17]; decide) (by rw [c_17]; decide) (by rw [c_17]; rfl) (by decide) ?_
      refine lv_iload hx hb dX0_isOn_90 (lv_at hl 0 rfl) ?_
      refine lv_if_ne (tgt := 105) hx hb dX0_isOn_92 (by decide) (fun c_18 => ?_) (fun c_18 => ?_)
      · skip
        refine lv_iconst (v := 1) hx hb dX0_isOn_105 (by decide) ?_
        refine lv_goto (tgt := 110) hx hb dX0_isOn_106 (by decide) ?_
        exact kx_zret hx hb hr (v := 1) (by simp [kb, kOnP, c_1, c_15, c_16, c_17, c_18]) dX0_isOn_110 hlocks
      · exact absurd c_18 (by decide)
    by_cases c_19 : kd pp = 3
    · refine lv_tableIn (off := 63) (tgt := 90) hx hb dX0_isOn_27 (by rw [c_19]; decide) (by rw [c_19]; decide) (by rw [c_19]; rfl) (by decide) ?_
      refine lv_iload hx hb dX0_isOn_90 (lv_at hl 0 rfl) ?_
      refine lv_if_ne (tgt := 105) hx hb dX0_isOn_92 (by decide) (fun c_20 => ?_) (fun c_20 => ?_)
      · skip
        refine lv_iconst (v := 1) hx hb dX0_isOn_105 (by decide) ?_
        refine lv_goto (tgt := 110) hx hb dX0_isOn_106 (by decide) ?_
        exact kx_zret hx hb hr (v := 1) (by simp [kb, kOnP, c_1, c_15, c_16, c_17, c_19, c_20]) dX0_isOn_110 hlocks
      · exact absurd c_20 (by decide)
    by_cases c_21 : kd pp = 4
    · refine lv_tableIn (off := 38) (tgt := 65) hx hb dX0_isOn_27 (by rw [c_21]; decide) (by rw [c_21]; decide) (by rw [c_21]; rfl) (by decide) ?_
      refine lv_iload hx hb dX0_isOn_65 (lv_at hl 0 rfl) ?_
      refine lv_if_ne (tgt := 84) hx hb dX0_isOn_67 (by decide) (fun c_22 => ?_) (fun c_22 => ?_)
      · skip
        refine lv_iconst (v := 1) hx hb dX0_isOn_84 (by decide) ?_
        refine lv_goto (tgt := 89) hx hb dX0_isOn_85 (by decide) ?_
        exact kx_zret hx hb hr (v := 1) (by simp [kb, kOnP, c_1, c_15, c_16, c_17, c_19, c_21, c_22]) dX0_isOn_89 hlocks
      · exact absurd c_22 (by decide)
    refine lv_tableOut (tgt := 90) hx hb dX0_isOn_27 (kx_out5 c_15 c_16 c_17 c_19 c_21) (by decide) ?_
    refine lv_iload hx hb dX0_isOn_90 (lv_at hl 0 rfl) ?_
    refine lv_if_ne (tgt := 105) hx hb dX0_isOn_92 (by decide) (fun c_23 => ?_) (fun c_23 => ?_)
    · skip
      refine lv_iconst (v := 1) hx hb dX0_isOn_105 (by decide) ?_
      refine lv_goto (tgt := 110) hx hb dX0_isOn_106 (by decide) ?_
      exact kx_zret hx hb hr (v := 1) (by simp [kb, kOnP, c_1, c_15, c_16, c_17, c_19, c_21, c_23]) dX0_isOn_110 hlocks
    · exact absurd c_23 (by decide)
abbrev rm_X0_pointsOn : Room := { frames := 1, cells := 0, slots := 0, locals := 24 }
set_option maxHeartbeats 4000000 in
set_option maxRecDepth 100000 in
theorem c_X0_pointsOn (l : Launch) (G : va_G) (cI cZ : ClassId) (qD : Nat) (hT : Nat) (qD1 : Nat) (qD2 : Nat) (qD3 : Nat) (qD4 : Nat) (qD5 : Nat) (qD6 : Nat) (qD7 : Nat) (qD8 : Nat) (kd : Nat → Int32) (ba : Nat → Int32) (ot : Nat → Int32) (aa : Nat → Int32) (bb : Nat → Int32) (bm : Nat → Int32) (xx : Nat → Int32) (yy : Nat → Int32) (pts : Nat) (measure : Int32) (hpo : pts ≤ 20) : Met l yX0_pointsOn wsX0_pointsOn rm_X0_pointsOn (kx_Pr G cI cZ [(qD, .inr (0, [.ref hT, .ref qD1, .ref qD2, .ref qD3, .ref qD4, .ref qD5, .ref qD6, .ref qD7, .ref qD8, .int (nI pts)])), (qD1, .inl (cI, 20, .inl kd)), (qD2, .inl (cI, 20, .inl ba)), (qD3, .inl (cI, 20, .inl ot)), (qD4, .inl (cI, 20, .inl aa)), (qD5, .inl (cI, 20, .inl bb)), (qD6, .inl (cI, 6, .inl bm)), (qD7, .inl (cI, 20, .inl xx)), (qD8, .inl (cI, 20, .inl yy))] [.ref qD, .int measure]) (QcRead (kPO kd ba ot measure pts)) 0 0 (fun _ => False) := by
  refine Met.ofW (cc := cX0_pointsOn) (maxL := 4) (ret := (some .int)) (by decide) rfl ?_
  intro p e s m args below meth c s₁ B hml hv
  obtain ⟨rfl, hP, hK⟩ := hv
  have hx := B.exec
  have hb := B.bytes
  have hr := B.returns
  have hts := atoms_spec (ws := wsX0_pointsOn) B.pre
  have hown : s.vm.findClass RX0 = some m.cls := findClass_of_methodNamed B.named
  have hlocks := B.notSynchronized
  have hl := lv_entry ([.ref qD, .int measure]) (n := 4) (Nat.le_of_ble_eq_true rfl)
  rw [lg_entry_eq]
  generalize (lg_sl ([.ref qD, .int measure]) ++ List.replicate (4 - (lg_sl ([.ref qD, .int measure])).length) Slot.unset).toArray = ls at hl ⊢
  have hl : lv_has ls 4 [(0, .ref qD), (1, .int measure)] := hl
  refine lv_iconst (v := 0) hx hb dX0_pointsOn_0 (by decide) ?_
  refine lv_istore_n (lv' := [(2, .int 0), (0, .ref qD), (1, .int measure)]) hx hb dX0_pointsOn_1 rfl hl (by decide) rfl (fun ls hl => ?_)
  refine lv_iconst (v := 0) hx hb dX0_pointsOn_2 (by decide) ?_
  refine lv_istore_n (lv' := [(3, .int 0), (2, .int 0), (0, .ref qD), (1, .int measure)]) hx hb dX0_pointsOn_3 rfl hl (by decide) rfl (fun ls hl => ?_)
  have lab_4_1 : ∀ (nn_1 : Nat) (i : Nat) (z1_0 : Int32) (z1_1 : Nat) (hi : i ≤ pts) (ez1_0 : (kPO kd ba ot measure i) = z1_0) (ez1_1 : i = z1_1) (ls : Array Slot) (hl : lv_has ls 4 [(3, .int (nI z1_1)), (2, .int z1_0), (0, .ref qD), (1, .int measure)]), (pts - i) < nn_1 → W p l e (headSpec wsX0_pointsOn rm_X0_pointsOn).room s m ([.ref qD, .int measure] : List Value).toArray below meth c s.heap [] 0 0 (MQ below (QcRead (kPO kd ba ot measure pts)) ([.ref qD, .int measure] : List Value).toArray s 0 0 (fun _ => False)) (F0 m 4 ls []) := by
    intro nn_1
    induction nn_1 with
    | zero => intro i z1_0 z1_1 hi ez1_0 ez1_1 ls hl hn; exact absurd hn (Nat.not_lt_zero _)
    | succ nn_1 ih_1 =>
      intro i z1_0 z1_1 hi ez1_0 ez1_1 ls hl hn_1
      subst ez1_0
      subst ez1_1
      refine lv_iload_n hx hb dX0_pointsOn_4 rfl (lv_at hl 0 rfl) ?_
      refine lv_aload_n hx hb dX0_pointsOn_5 rfl (lv_at hl 2 rfl) ?_
      refine va_get (D := G) (ci := 0) (v := .int (nI pts)) (C := RX0) (T := TX0) (N := 10) hx hb hts (fun _ h => List.mem_cons_of_mem _ (List.mem_append_right _ h)) hown hK.1 hP 0 rfl rfl 9 (by decide) (hts (.fieldLink RX0 36 "TailorHouse$Draft" "points" "I") (List.mem_of_getElem? (i := 1) rfl)) (fun _ h9 => h9) rfl dX0_pointsOn_6 ?_
      refine kx_geN hx hb i pts (by omega) (by omega) (tgt := 34) dX0_pointsOn_9 (by decide) (fun c_2 => ?_) (fun c_2 => ?_)
      · skip
        have hE : pts = i := by omega
        subst hE
        refine lv_iload_n hx hb dX0_pointsOn_34 rfl (lv_at hl 1 rfl) ?_
        exact kx_iret hx hb hr (v := (kPO kd ba ot measure pts)) (rfl) dX0_pointsOn_35 hlocks
      · skip
        refine lv_aload_n hx hb dX0_pointsOn_12 rfl (lv_at hl 2 rfl) ?_
        refine lv_iload_n hx hb dX0_pointsOn_13 rfl (lv_at hl 0 rfl) ?_
        refine lv_iload_n hx hb dX0_pointsOn_14 rfl (lv_at hl 3 rfl) ?_
        refine lv_iload_n hx hb dX0_pointsOn_15 rfl (lv_at hl 1 rfl) ?_
        refine kx_ri (va_runV (As := [.int (nI i), .int measure, .int (kPO kd ba ot measure i)]) (rest := []) ⟨hx, hb, hml, hown, hts⟩ (c_X0_isOn l G cI cZ qD hT qD1 qD2 qD3 qD4 qD5 qD6 qD7 qD8 kd ba ot aa bb bm xx yy pts i measure (kPO kd ba ot measure i) (by first | assumption | omega)) (cwV 3 hts gX0_pointsOn_X0_isOn rfl rfl rfl (by decide +kernel) ⟨(Nat.le_of_ble_eq_true rfl), (Nat.le_of_ble_eq_true rfl)⟩) (kx_preR hK (kx_sub 0 9 hP rfl) 0 rfl rfl) rfl rfl hl.1 rfl (lv_room (Nat.le_of_ble_eq_true rfl)) dX0_pointsOn_16 ⟨Nat.zero_le _, Nat.zero_le _⟩) ?_
        refine kx_ifeqB hx hb (kOnP kd ba ot i measure (kPO kd ba ot measure i)) (tgt := 28) dX0_pointsOn_19 (by decide) (fun c_3 => ?_) (fun c_3 => ?_)
        · skip
          refine lv_iinc (v := nI (i + 1)) (lv' := [(3, .int (nI (i + 1))), (2, .int (kPO kd ba ot measure i)), (0, .ref qD), (1, .int measure)]) hx hb dX0_pointsOn_28 hl (k := 0) rfl (nI_1 i) (by decide) rfl (fun ls hl => ?_)
          refine lv_goto (tgt := 4) hx hb dX0_pointsOn_31 (by decide) ?_
          exact ih_1 (i + 1) (kPO kd ba ot measure i) (i + 1) (by omega) (by simp [kPO, c_2, Nat.not_le.mpr c_2, c_3]) rfl ls (lv_sub hl [0, 1, 2, 3] rfl) (by omega)
        · skip
          refine lv_iload_n hx hb dX0_pointsOn_22 rfl (lv_at hl 1 rfl) ?_
          refine lv_iconst (v := 1) hx hb dX0_pointsOn_23 (by decide) ?_
          refine lv_iload_n hx hb dX0_pointsOn_24 rfl (lv_at hl 0 rfl) ?_
          refine lv_ishl hx hb dX0_pointsOn_25 ?_
          refine lv_ior hx hb dX0_pointsOn_26 ?_
          refine lv_istore_n (lv' := [(2, .int ((kPO kd ba ot measure i) ||| (1 <<< ((nI i) &&& 31)))), (3, .int (nI i)), (0, .ref qD), (1, .int measure)]) hx hb dX0_pointsOn_27 rfl hl (by decide) rfl (fun ls hl => ?_)
          refine lv_iinc (v := nI (i + 1)) (lv' := [(3, .int (nI (i + 1))), (2, .int ((kPO kd ba ot measure i) ||| (1 <<< ((nI i) &&& 31)))), (0, .ref qD), (1, .int measure)]) hx hb dX0_pointsOn_28 hl (k := 1) rfl (nI_1 i) (by decide) rfl (fun ls hl => ?_)
          refine lv_goto (tgt := 4) hx hb dX0_pointsOn_31 (by decide) ?_
          exact ih_1 (i + 1) ((kPO kd ba ot measure i) ||| (1 <<< ((nI i) &&& 31))) (i + 1) (by omega) (by simp [kPO, c_2, Nat.not_le.mpr c_2, c_3]) rfl ls (lv_sub hl [0, 1, 2, 3] rfl) (by omega)
  exact lab_4_1 ((pts - 0) + 1) 0 0 0 (by omega) (rfl) rfl ls (lv_sub hl [0, 1, 2, 3] rfl) (Nat.lt_succ_self _)
abbrev rm_X0_mixPoints : Room := { frames := 1, cells := 0, slots := 0, locals := 23 }
set_option maxHeartbeats 4000000 in
set_option maxRecDepth 100000 in
theorem c_X0_mixPoints (l : Launch) (G : va_G) (cI cZ : ClassId) (qD : Nat) (hT : Nat) (qD1 : Nat) (qD2 : Nat) (qD3 : Nat) (qD4 : Nat) (qD5 : Nat) (qD6 : Nat) (qD7 : Nat) (qD8 : Nat) (kd : Nat → Int32) (ba : Nat → Int32) (ot : Nat → Int32) (aa : Nat → Int32) (bb : Nat → Int32) (bm : Nat → Int32) (xx : Nat → Int32) (yy : Nat → Int32) (pts : Nat) (hh : Int64) (hpo : pts ≤ 20) : Met l yX0_mixPoints wsX0_mixPoints rm_X0_mixPoints (kx_Pr G cI cZ [(qD, .inr (0, [.ref hT, .ref qD1, .ref qD2, .ref qD3, .ref qD4, .ref qD5, .ref qD6, .ref qD7, .ref qD8, .int (nI pts)])), (qD1, .inl (cI, 20, .inl kd)), (qD2, .inl (cI, 20, .inl ba)), (qD3, .inl (cI, 20, .inl ot)), (qD4, .inl (cI, 20, .inl aa)), (qD5, .inl (cI, 20, .inl bb)), (qD6, .inl (cI, 6, .inl bm)), (qD7, .inl (cI, 20, .inl xx)), (qD8, .inl (cI, 20, .inl yy))] [.ref qD, .long hh]) (kx_QL (kMP xx yy pts hh)) 0 0 (fun _ => False) := by
  refine Met.ofW (cc := cX0_mixPoints) (maxL := 6) (ret := (some .long)) (by decide) rfl ?_
  intro p e s m args below meth c s₁ B hml hv
  obtain ⟨rfl, hP, hK⟩ := hv
  have hx := B.exec
  have hb := B.bytes
  have hr := B.returns
  have hts := atoms_spec (ws := wsX0_mixPoints) B.pre
  have hown : s.vm.findClass RX0 = some m.cls := findClass_of_methodNamed B.named
  have hlocks := B.notSynchronized
  have hl := lv_entry ([.ref qD, .long hh]) (n := 6) (Nat.le_of_ble_eq_true rfl)
  rw [lg_entry_eq]
  generalize (lg_sl ([.ref qD, .long hh]) ++ List.replicate (6 - (lg_sl ([.ref qD, .long hh])).length) Slot.unset).toArray = ls at hl ⊢
  have hl : lv_has ls 6 [(0, .ref qD), (1, .long hh)] := hl
  refine lv_lload_n hx hb dX0_mixPoints_0 rfl (lv_at hl 1 rfl) ?_
  refine lv_lstore_n (lv' := [(3, .long hh), (0, .ref qD), (1, .long hh)]) hx hb dX0_mixPoints_1 rfl hl (by decide) rfl (fun ls hl => ?_)
  refine lv_iconst (v := 0) hx hb dX0_mixPoints_2 (by decide) ?_
  refine lv_istore (lv' := [(5, .int 0), (3, .long hh), (0, .ref qD), (1, .long hh)]) hx hb dX0_mixPoints_3 hl (by decide) rfl (fun ls hl => ?_)
  have lab_5_1 : ∀ (nn_1 : Nat) (i : Nat) (z1_0 : Int64) (z1_1 : Nat) (hi : i ≤ pts) (ez1_0 : (kMP xx yy i hh) = z1_0) (ez1_1 : i = z1_1) (ls : Array Slot) (hl : lv_has ls 6 [(5, .int (nI z1_1)), (3, .long z1_0), (0, .ref qD), (1, .long hh)]), (pts - i) < nn_1 → W p l e (headSpec wsX0_mixPoints rm_X0_mixPoints).room s m ([.ref qD, .long hh] : List Value).toArray below meth c s.heap [] 0 0 (MQ below (kx_QL (kMP xx yy pts hh)) ([.ref qD, .long hh] : List Value).toArray s 0 0 (fun _ => False)) (F0 m 5 ls []) := by
    intro nn_1
    induction nn_1 with
    | zero => intro i z1_0 z1_1 hi ez1_0 ez1_1 ls hl hn; exact absurd hn (Nat.not_lt_zero _)
    | succ nn_1 ih_1 =>
      intro i z1_0 z1_1 hi ez1_0 ez1_1 ls hl hn_1
      subst ez1_0
      subst ez1_1
      refine lv_iload hx hb dX0_mixPoints_5 (lv_at hl 0 rfl) ?_
      refine lv_aload_n hx hb dX0_mixPoints_7 rfl (lv_at hl 2 rfl) ?_
      refine va_get (D := G) (ci := 0) (v := .int (nI pts)) (C := RX0) (T := TX0) (N := 10) hx hb hts (fun _ h => List.mem_cons_of_mem _ (List.mem_append_right _ h)) hown hK.1 hP 0 rfl rfl 9 (by decide) (hts (.fieldLink RX0 36 "TailorHouse$Draft" "points" "I") (List.mem_of_getElem? (i := 1) rfl)) (fun _ h9 => h9) rfl dX0_mixPoints_8 ?_
      refine kx_geN hx hb i pts (by omega) (by omega) (tgt := 44) dX0_mixPoints_11 (by decide) (fun c_2 => ?_) (fun c_2 => ?_)
      · skip
        have hE : pts = i := by omega
        subst hE
        refine lv_lload_n hx hb dX0_mixPoints_44 rfl (lv_at hl 1 rfl) ?_
        exact kx_lret hx hb hr (rfl) dX0_mixPoints_45 hlocks
      · skip
        refine lv_lload_n hx hb dX0_mixPoints_14 rfl (lv_at hl 1 rfl) ?_
        refine lv_aload_n hx hb dX0_mixPoints_15 rfl (lv_at hl 2 rfl) ?_
        refine va_get (D := G) (ci := 0) (v := .ref qD7) (C := RX0) (T := TX0) (N := 10) hx hb hts (fun _ h => List.mem_cons_of_mem _ (List.mem_append_right _ h)) hown hK.1 hP 0 rfl rfl 7 (by decide) (hts (.fieldLink RX0 30 "TailorHouse$Draft" "x" "[I") (List.mem_of_getElem? (i := 2) rfl)) (fun _ h9 => h9) rfl dX0_mixPoints_16 ?_
        refine lv_iload hx hb dX0_mixPoints_19 (lv_at hl 0 rfl) ?_
        refine kx_ialdN hx hb hK.1 hP 7 rfl rfl i (by omega) (by decide) dX0_mixPoints_21 ?_
        refine lv_i2l hx hb dX0_mixPoints_22 rfl ?_
        refine kx_rl (va_runSN (As := [.long (kMP xx yy i hh), .long ((xx i).toInt64)]) (rest := []) ⟨hx, hb, hml, hown, hts⟩ (c_X5_mix l (kMP xx yy i hh) ((xx i).toInt64)) ⟨va_cnB 2 hts gX0_mixPoints_X5_mix_n61 rfl rfl rfl (hK.2 _ (List.mem_of_getElem? (i := 24) rfl)) (hts (.initialized RX5) (List.mem_of_getElem? (i := 5) rfl)) (by decide +kernel) ⟨(Nat.le_of_ble_eq_true rfl), (Nat.le_of_ble_eq_true rfl)⟩, (hts (.static yX5_mix) (List.mem_of_getElem? (i := 4) rfl)), trivial⟩ kx_preS rfl rfl hl.1 rfl (lv_room (Nat.le_of_ble_eq_true rfl)) dX0_mixPoints_23 ⟨Nat.zero_le _, Nat.zero_le _⟩) ?_
        refine lv_aload_n hx hb dX0_mixPoints_26 rfl (lv_at hl 2 rfl) ?_
        refine va_get (D := G) (ci := 0) (v := .ref qD8) (C := RX0) (T := TX0) (N := 10) hx hb hts (fun _ h => List.mem_cons_of_mem _ (List.mem_append_right _ h)) hown hK.1 hP 0 rfl rfl 8 (by decide) (hts (.fieldLink RX0 33 "TailorHouse$Draft" "y" "[I") (List.mem_of_getElem? (i := 3) rfl)) (fun _ h9 => h9) rfl dX0_mixPoints_27 ?_
        refine lv_iload hx hb dX0_mixPoints_30 (lv_at hl 0 rfl) ?_
        refine kx_ialdN hx hb hK.1 hP 8 rfl rfl i (by omega) (by decide) dX0_mixPoints_32 ?_
        refine lv_i2l hx hb dX0_mixPoints_33 rfl ?_
        refine kx_rl (va_runSN (As := [.long (kmix (kMP xx yy i hh) ((xx i).toInt64)), .long ((yy i).toInt64)]) (rest := []) ⟨hx, hb, hml, hown, hts⟩ (c_X5_mix l (kmix (kMP xx yy i hh) ((xx i).toInt64)) ((yy i).toInt64)) ⟨va_cnB 2 hts gX0_mixPoints_X5_mix_n61 rfl rfl rfl (hK.2 _ (List.mem_of_getElem? (i := 24) rfl)) (hts (.initialized RX5) (List.mem_of_getElem? (i := 5) rfl)) (by decide +kernel) ⟨(Nat.le_of_ble_eq_true rfl), (Nat.le_of_ble_eq_true rfl)⟩, (hts (.static yX5_mix) (List.mem_of_getElem? (i := 4) rfl)), trivial⟩ kx_preS rfl rfl hl.1 rfl (lv_room (Nat.le_of_ble_eq_true rfl)) dX0_mixPoints_34 ⟨Nat.zero_le _, Nat.zero_le _⟩) ?_
        refine lv_lstore_n (lv' := [(3, .long (kmix (kmix (kMP xx yy i hh) ((xx i).toInt64)) ((yy i).toInt64))), (5, .int (nI i)), (0, .ref qD), (1, .long hh)]) hx hb dX0_mixPoints_37 rfl hl (by decide) rfl (fun ls hl => ?_)
        refine lv_iinc (v := nI (i + 1)) (lv' := [(5, .int (nI (i + 1))), (3, .long (kmix (kmix (kMP xx yy i hh) ((xx i).toInt64)) ((yy i).toInt64))), (0, .ref qD), (1, .long hh)]) hx hb dX0_mixPoints_38 hl (k := 1) rfl (nI_1 i) (by decide) rfl (fun ls hl => ?_)
        refine lv_goto (tgt := 5) hx hb dX0_mixPoints_41 (by decide) ?_
        exact ih_1 (i + 1) (kmix (kmix (kMP xx yy i hh) ((xx i).toInt64)) ((yy i).toInt64)) (i + 1) (by omega) (rfl) rfl ls (lv_sub hl [0, 1, 2, 3] rfl) (by omega)
  exact lab_5_1 ((pts - 0) + 1) 0 hh 0 (by omega) (rfl) rfl ls (lv_sub hl [0, 1, 2, 3] rfl) (Nat.lt_succ_self _)
