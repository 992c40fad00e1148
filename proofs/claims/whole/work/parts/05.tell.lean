/-! the tellings, as numbers -/
def kdiv (s d : Int32) : Int32 := if d = 0 then 0 else s / d
def kmix (h v : Int64) : Int64 := 31 * h + v
def kLast (bd ms dy : Nat → Int32) (body measure limit : Int32) : Nat → Int32
  | 0 => -1
  | i + 1 => if (bd i = body ∧ ms i = measure) ∧ dy i < limit ∧ kLast bd ms dy body measure limit i < dy i then dy i else kLast bd ms dy body measure limit i
def kSum (hd bd ms dy vl hb : Nat → Int32) (body measure day : Int32) : Nat → Int32
  | 0 => 0
  | i + 1 => if (bd i = body ∧ ms i = measure) ∧ dy i = day then kSum hd bd ms dy vl hb body measure day i + (vl i - hb (hd i * 6 + measure).toNatClampNeg) else kSum hd bd ms dy vl hb body measure day i
def kCnt (bd ms dy : Nat → Int32) (body measure day : Int32) : Nat → Nat
  | 0 => 0
  | i + 1 => if (bd i = body ∧ ms i = measure) ∧ dy i = day then kCnt bd ms dy body measure day i + 1 else kCnt bd ms dy body measure day i
def kMean (hd bd ms dy vl hb : Nat → Int32) (told : Nat) (body measure day : Int32) : Int32 := kdiv (kSum hd bd ms dy vl hb body measure day told) (nI (kCnt bd ms dy body measure day told))
def kLatest (hd bd ms dy vl hb : Nat → Int32) (told : Nat) (body measure : Int32) : Int32 := kMean hd bd ms dy vl hb told body measure (kLast bd ms dy body measure 10001 told)
def kGrow (hd bd ms dy vl hb : Nat → Int32) (told : Nat) (body measure : Int32) : Int32 :=
  if kLast bd ms dy body measure (kLast bd ms dy body measure 10001 told) told = -1 then 0 else kMean hd bd ms dy vl hb told body measure (kLast bd ms dy body measure 10001 told) - kMean hd bd ms dy vl hb told body measure (kLast bd ms dy body measure (kLast bd ms dy body measure 10001 told) told)
def kFs (hd bd ms dy vl : Nat → Int32) (tx : Int32) (i : Nat) : Nat → Int32 → Int32
  | 0, a => a
  | j + 1, a => if hd j = tx ∧ (ms i = ms j ∧ bd i = bd j ∧ dy i = dy j) then kFs hd bd ms dy vl tx i j a + (vl i - vl j) else kFs hd bd ms dy vl tx i j a
def kFn (hd bd ms dy : Nat → Int32) (tx : Int32) (i : Nat) : Nat → Nat → Nat
  | 0, a => a
  | j + 1, a => if hd j = tx ∧ (ms i = ms j ∧ bd i = bd j ∧ dy i = dy j) then kFn hd bd ms dy tx i j a + 1 else kFn hd bd ms dy tx i j a
def kFS (hd bd ms dy vl : Nat → Int32) (told : Nat) (measure sx tx : Int32) : Nat → Int32
  | 0 => 0
  | i + 1 => if hd i = sx ∧ ms i = measure then kFs hd bd ms dy vl tx i told (kFS hd bd ms dy vl told measure sx tx i) else kFS hd bd ms dy vl told measure sx tx i
def kFN (hd bd ms dy : Nat → Int32) (told : Nat) (measure sx tx : Int32) : Nat → Nat
  | 0 => 0
  | i + 1 => if hd i = sx ∧ ms i = measure then kFn hd bd ms dy tx i told (kFN hd bd ms dy told measure sx tx i) else kFN hd bd ms dy told measure sx tx i
def kFound (hd bd ms dy vl : Nat → Int32) (told : Nat) (measure sx tx : Int32) : Int32 :=
  if nI (kFN hd bd ms dy told measure sx tx told) = 0 then -1001 else kdiv (kFS hd bd ms dy vl told measure sx tx told) (nI (kFN hd bd ms dy told measure sx tx told))
def kMM (hd bd ms dy vl hb : Nat → Int32) (told b : Nat) : Nat → Int64 → Int64
  | 0, h => h
  | j + 1, h => kmix (kMM hd bd ms dy vl hb told b j h) (kLatest hd bd ms dy vl hb told (nI b) (nI j)).toInt64
def kMB (hd bd ms dy vl hb : Nat → Int32) (told : Nat) : Nat → Int64 → Int64
  | 0, h => h
  | b + 1, h => kMM hd bd ms dy vl hb told b 6 (kMB hd bd ms dy vl hb told b h)
theorem kx_hab {h m : Int32} (h1 : vp_in h 4) (h2 : vp_in m 6) : vp_in (h * 6 + m) 24 := by
  obtain ⟨a, ha, rfl⟩ := vp_in_of h1 (by decide)
  obtain ⟨b, hb, rfl⟩ := vp_in_of h2 (by decide)
  rw [show nI a * 6 = nI (a * 6) from pk_mul a 6, nI_add]
  exact vp_in_nI (by omega) (by decide)
def kRt (sq : Int64) : Nat → Int64
  | 0 => 0
  | n + 1 => if (kRt sq n + 1 <<< ((nI (31 - n) - 1).toInt64 &&& 63)) * (kRt sq n + 1 <<< ((nI (31 - n) - 1).toInt64 &&& 63)) ≤ sq then kRt sq n + 1 <<< ((nI (31 - n) - 1).toInt64 &&& 63) else kRt sq n
def kroot (sq : Int64) : Int32 := (kRt sq 31).toInt32
theorem kx_bit {k : Nat} (hk : k ≤ 31) : (nI k - 1).toInt = (k : Int) - 1 := by
  rw [show (1 : Int32) = nI 1 from rfl]
  exact pk_sub_toInt (by omega) (by decide)
theorem kx_rtn {n : Nat} (h : n ≤ 31) (c : ¬ nI (31 - n) - 1 < 0) : n < 31 := by
  rw [Int32.lt_iff_toInt_lt, kx_bit (by omega)] at c
  have : (0 : Int32).toInt = 0 := by decide
  omega
theorem kx_rte {n : Nat} (h : n ≤ 31) (c : nI (31 - n) - 1 < 0) : n = 31 := by
  rw [Int32.lt_iff_toInt_lt, kx_bit (by omega)] at c
  have : (0 : Int32).toInt = 0 := by decide
  omega
theorem kx_rtb {n : Nat} (h : n < 31) : nI (31 - (n + 1)) - 1 = nI (31 - n) - 1 + (-1) := by
  obtain ⟨k, hk⟩ : ∃ k, 31 - n = k + 1 := ⟨30 - n, by omega⟩
  rw [hk, show 31 - (n + 1) = k by omega, nI_pred, Int32.sub_eq_add_neg]
abbrev rm_X5_within : Room := { frames := 0, cells := 0, slots := 0, locals := 0 }
set_option maxHeartbeats 4000000 in
set_option maxRecDepth 100000 in
theorem c_X5_within (l : Launch) (v : Int32) (least : Int32) (most : Int32) : Met l yX5_within wsX5_within rm_X5_within (kx_Ps [.int v, .int least, .int most]) (QcRead (kb (least ≤ v ∧ v ≤ most))) 0 0 (fun _ => False) := by
  refine Met.ofW (cc := cX5_within) (maxL := 3) (ret := (some .boolean)) (by decide) rfl ?_
  intro p e s m args below meth c s₁ B hml hv
  obtain rfl := hv
  have hx := B.exec
  have hb := B.bytes
  have hr := B.returns
  have hts := atoms_spec (ws := wsX5_within) B.pre
  have hown : s.vm.findClass RX5 = some m.cls := findClass_of_methodNamed B.named
  have hlocks := B.notSynchronized
  have hl := lv_entry ([.int v, .int least, .int most]) (n := 3) (Nat.le_of_ble_eq_true rfl)
  rw [lg_entry_eq]
  generalize (lg_sl ([.int v, .int least, .int most]) ++ List.replicate (3 - (lg_sl ([.int v, .int least, .int most])).length) Slot.unset).toArray = ls at hl ⊢
  have hl : lv_has ls 3 [(0, .int v), (1, .int least), (2, .int most)] := hl
  refine lv_iload_n hx hb dX5_within_0 rfl (lv_at hl 0 rfl) ?_
  refine lv_iload_n hx hb dX5_within_1 rfl (lv_at hl 1 rfl) ?_
  refine lv_icmp_lt (tgt := 14) hx hb dX5_within_2 (by decide) (fun c_1 => ?_) (fun c_1 => ?_)
  · skip
    refine lv_iconst (v := 0) hx hb dX5_within_14 (by decide) ?_
    exact kx_zret hx hb hr (v := 0) (by simp [kb, c_1, Int32.not_le.mpr c_1]) dX5_within_15 hlocks
  · skip
    refine lv_iload_n hx hb dX5_within_5 rfl (lv_at hl 0 rfl) ?_
    refine lv_iload_n hx hb dX5_within_6 rfl (lv_at hl 2 rfl) ?_
    refine lv_icmp_gt (tgt := 14) hx hb dX5_within_7 (by decide) (fun c_2 => ?_) (fun c_2 => ?_)
    · skip
      refine lv_iconst (v := 0) hx hb dX5_within_14 (by decide) ?_
      exact kx_zret hx hb hr (v := 0) (by simp [kb, c_1, Int32.not_lt.mp c_1, c_2, Int32.not_le.mpr c_2]) dX5_within_15 hlocks
    · skip
      refine lv_iconst (v := 1) hx hb dX5_within_10 (by decide) ?_
      refine lv_goto (tgt := 15) hx hb dX5_within_11 (by decide) ?_
      exact kx_zret hx hb hr (v := 1) (by simp [kb, c_1, Int32.not_lt.mp c_1, c_2, Int32.not_lt.mp c_2]) dX5_within_15 hlocks
abbrev rm_X5_isHand : Room := { frames := 1, cells := 0, slots := 0, locals := 22 }
set_option maxHeartbeats 4000000 in
set_option maxRecDepth 100000 in
theorem c_X5_isHand (l : Launch) (v : Int32) : Met l yX5_isHand wsX5_isHand rm_X5_isHand (kx_Ps [.int v]) (QcRead (kb (0 ≤ v ∧ v ≤ 3))) 0 0 (fun _ => False) := by
  refine Met.ofW (cc := cX5_isHand) (maxL := 1) (ret := (some .boolean)) (by decide) rfl ?_
  intro p e s m args below meth c s₁ B hml hv
  obtain rfl := hv
  have hx := B.exec
  have hb := B.bytes
  have hr := B.returns
  have hts := atoms_spec (ws := wsX5_isHand) B.pre
  have hown : s.vm.findClass RX5 = some m.cls := findClass_of_methodNamed B.named
  have hlocks := B.notSynchronized
  have hl := lv_entry ([.int v]) (n := 1) (Nat.le_of_ble_eq_true rfl)
  rw [lg_entry_eq]
  generalize (lg_sl ([.int v]) ++ List.replicate (1 - (lg_sl ([.int v])).length) Slot.unset).toArray = ls at hl ⊢
  have hl : lv_has ls 1 [(0, .int v)] := hl
  refine lv_iload_n hx hb dX5_isHand_0 rfl (lv_at hl 0 rfl) ?_
  refine lv_iconst (v := 0) hx hb dX5_isHand_1 (by decide) ?_
  refine lv_iconst (v := 3) hx hb dX5_isHand_2 (by decide) ?_
  refine kx_ri (va_runS (As := [.int v, .int 0, .int 3]) (rest := []) ⟨hx, hb, hml, hown, hts⟩ (c_X5_within l v 0 3) (va_cwS 3 hts gX5_isHand_X5_within rfl rfl rfl (by decide +kernel) ⟨(Nat.le_of_ble_eq_true rfl), (Nat.le_of_ble_eq_true rfl)⟩) kx_preS rfl rfl hl.1 rfl (lv_room (Nat.le_of_ble_eq_true rfl)) dX5_isHand_3 ⟨Nat.zero_le _, Nat.zero_le _⟩) ?_
  exact kx_zret hx hb hr (v := (kb (0 ≤ v ∧ v ≤ 3))) (rfl) dX5_isHand_6 hlocks
abbrev rm_X5_isBody : Room := { frames := 1, cells := 0, slots := 0, locals := 22 }
set_option maxHeartbeats 4000000 in
set_option maxRecDepth 100000 in
theorem c_X5_isBody (l : Launch) (v : Int32) : Met l yX5_isBody wsX5_isBody rm_X5_isBody (kx_Ps [.int v]) (QcRead (kb (0 ≤ v ∧ v ≤ 5))) 0 0 (fun _ => False) := by
  refine Met.ofW (cc := cX5_isBody) (maxL := 1) (ret := (some .boolean)) (by decide) rfl ?_
  intro p e s m args below meth c s₁ B hml hv
  obtain rfl := hv
  have hx := B.exec
  have hb := B.bytes
  have hr := B.returns
  have hts := atoms_spec (ws := wsX5_isBody) B.pre
  have hown : s.vm.findClass RX5 = some m.cls := findClass_of_methodNamed B.named
  have hlocks := B.notSynchronized
  have hl := lv_entry ([.int v]) (n := 1) (Nat.le_of_ble_eq_true rfl)
  rw [lg_entry_eq]
  generalize (lg_sl ([.int v]) ++ List.replicate (1 - (lg_sl ([.int v])).length) Slot.unset).toArray = ls at hl ⊢
  have hl : lv_has ls 1 [(0, .int v)] := hl
  refine lv_iload_n hx hb dX5_isBody_0 rfl (lv_at hl 0 rfl) ?_
  refine lv_iconst (v := 0) hx hb dX5_isBody_1 (by decide) ?_
  refine lv_iconst (v := 5) hx hb dX5_isBody_2 (by decide) ?_
  refine kx_ri (va_runS (As := [.int v, .int 0, .int 5]) (rest := []) ⟨hx, hb, hml, hown, hts⟩ (c_X5_within l v 0 5) (va_cwS 3 hts gX5_isBody_X5_within rfl rfl rfl (by decide +kernel) ⟨(Nat.le_of_ble_eq_true rfl), (Nat.le_of_ble_eq_true rfl)⟩) kx_preS rfl rfl hl.1 rfl (lv_room (Nat.le_of_ble_eq_true rfl)) dX5_isBody_3 ⟨Nat.zero_le _, Nat.zero_le _⟩) ?_
  exact kx_zret hx hb hr (v := (kb (0 ≤ v ∧ v ≤ 5))) (rfl) dX5_isBody_6 hlocks
abbrev rm_X5_isMeasure : Room := { frames := 1, cells := 0, slots := 0, locals := 22 }
set_option maxHeartbeats 4000000 in
set_option maxRecDepth 100000 in
theorem c_X5_isMeasure (l : Launch) (v : Int32) : Met l yX5_isMeasure wsX5_isMeasure rm_X5_isMeasure (kx_Ps [.int v]) (QcRead (kb (0 ≤ v ∧ v ≤ 5))) 0 0 (fun _ => False) := by
  refine Met.ofW (cc := cX5_isMeasure) (maxL := 1) (ret := (some .boolean)) (by decide) rfl ?_
  intro p e s m args below meth c s₁ B hml hv
  obtain rfl := hv
  have hx := B.exec
  have hb := B.bytes
  have hr := B.returns
  have hts := atoms_spec (ws := wsX5_isMeasure) B.pre
  have hown : s.vm.findClass RX5 = some m.cls := findClass_of_methodNamed B.named
  have hlocks := B.notSynchronized
  have hl := lv_entry ([.int v]) (n := 1) (Nat.le_of_ble_eq_true rfl)
  rw [lg_entry_eq]
  generalize (lg_sl ([.int v]) ++ List.replicate (1 - (lg_sl ([.int v])).length) Slot.unset).toArray = ls at hl ⊢
  have hl : lv_has ls 1 [(0, .int v)] := hl
  refine lv_iload_n hx hb dX5_isMeasure_0 rfl (lv_at hl 0 rfl) ?_
  refine lv_iconst (v := 0) hx hb dX5_isMeasure_1 (by decide) ?_
  refine lv_iconst (v := 5) hx hb dX5_isMeasure_2 (by decide) ?_
  refine kx_ri (va_runS (As := [.int v, .int 0, .int 5]) (rest := []) ⟨hx, hb, hml, hown, hts⟩ (c_X5_within l v 0 5) (va_cwS 3 hts gX5_isMeasure_X5_within rfl rfl rfl (by decide +kernel) ⟨(Nat.le_of_ble_eq_true rfl), (Nat.le_of_ble_eq_true rfl)⟩) kx_preS rfl rfl hl.1 rfl (lv_room (Nat.le_of_ble_eq_true rfl)) dX5_isMeasure_3 ⟨Nat.zero_le _, Nat.zero_le _⟩) ?_
  exact kx_zret hx hb hr (v := (kb (0 ≤ v ∧ v ≤ 5))) (rfl) dX5_isMeasure_6 hlocks
abbrev rm_X5_isPlace : Room := { frames := 1, cells := 0, slots := 0, locals := 22 }
set_option maxHeartbeats 4000000 in
set_option maxRecDepth 100000 in
theorem c_X5_isPlace (l : Launch) (v : Int32) : Met l yX5_isPlace wsX5_isPlace rm_X5_isPlace (kx_Ps [.int v]) (QcRead (kb ((-5000) ≤ v ∧ v ≤ 5000))) 0 0 (fun _ => False) := by
  refine Met.ofW (cc := cX5_isPlace) (maxL := 1) (ret := (some .boolean)) (by decide) rfl ?_
  intro p e s m args below meth c s₁ B hml hv
  obtain rfl := hv
  have hx := B.exec
  have hb := B.bytes
  have hr := B.returns
  have hts := atoms_spec (ws := wsX5_isPlace) B.pre
  have hown : s.vm.findClass RX5 = some m.cls := findClass_of_methodNamed B.named
  have hlocks := B.notSynchronized
  have hl := lv_entry ([.int v]) (n := 1) (Nat.le_of_ble_eq_true rfl)
  rw [lg_entry_eq]
  generalize (lg_sl ([.int v]) ++ List.replicate (1 - (lg_sl ([.int v])).length) Slot.unset).toArray = ls at hl ⊢
  have hl : lv_has ls 1 [(0, .int v)] := hl
  refine lv_iload_n hx hb dX5_isPlace_0 rfl (lv_at hl 0 rfl) ?_
  refine lv_sipush (v := (-5000)) hx hb dX5_isPlace_1 (by decide) ?_
  refine lv_sipush (v := 5000) hx hb dX5_isPlace_4 (by decide) ?_
  refine kx_ri (va_runS (As := [.int v, .int (-5000), .int 5000]) (rest := []) ⟨hx, hb, hml, hown, hts⟩ (c_X5_within l v (-5000) 5000) (va_cwS 3 hts gX5_isPlace_X5_within rfl rfl rfl (by decide +kernel) ⟨(Nat.le_of_ble_eq_true rfl), (Nat.le_of_ble_eq_true rfl)⟩) kx_preS rfl rfl hl.1 rfl (lv_room (Nat.le_of_ble_eq_true rfl)) dX5_isPlace_7 ⟨Nat.zero_le _, Nat.zero_le _⟩) ?_
  exact kx_zret hx hb hr (v := (kb ((-5000) ≤ v ∧ v ≤ 5000))) (rfl) dX5_isPlace_10 hlocks
abbrev rm_X5_isHours : Room := { frames := 1, cells := 0, slots := 0, locals := 22 }
set_option maxHeartbeats 4000000 in
set_option maxRecDepth 100000 in
theorem c_X5_isHours (l : Launch) (v : Int32) : Met l yX5_isHours wsX5_isHours rm_X5_isHours (kx_Ps [.int v]) (QcRead (kb (1 ≤ v ∧ v ≤ 50))) 0 0 (fun _ => False) := by
  refine Met.ofW (cc := cX5_isHours) (maxL := 1) (ret := (some .boolean)) (by decide) rfl ?_
  intro p e s m args below meth c s₁ B hml hv
  obtain rfl := hv
  have hx := B.exec
  have hb := B.bytes
  have hr := B.returns
  have hts := atoms_spec (ws := wsX5_isHours) B.pre
  have hown : s.vm.findClass RX5 = some m.cls := findClass_of_methodNamed B.named
  have hlocks := B.notSynchronized
  have hl := lv_entry ([.int v]) (n := 1) (Nat.le_of_ble_eq_true rfl)
  rw [lg_entry_eq]
  generalize (lg_sl ([.int v]) ++ List.replicate (1 - (lg_sl ([.int v])).length) Slot.unset).toArray = ls at hl ⊢
  have hl : lv_has ls 1 [(0, .int v)] := hl
  refine lv_iload_n hx hb dX5_isHours_0 rfl (lv_at hl 0 rfl) ?_
  refine lv_iconst (v := 1) hx hb dX5_isHours_1 (by decide) ?_
  refine lv_bipush (v := 50) hx hb dX5_isHours_2 (by decide) ?_
  refine kx_ri (va_runS (As := [.int v, .int 1, .int 50]) (rest := []) ⟨hx, hb, hml, hown, hts⟩ (c_X5_within l v 1 50) (va_cwS 3 hts gX5_isHours_X5_within rfl rfl rfl (by decide +kernel) ⟨(Nat.le_of_ble_eq_true rfl), (Nat.le_of_ble_eq_true rfl)⟩) kx_preS rfl rfl hl.1 rfl (lv_room (Nat.le_of_ble_eq_true rfl)) dX5_isHours_4 ⟨Nat.zero_le _, Nat.zero_le _⟩) ?_
  exact kx_zret hx hb hr (v := (kb (1 ≤ v ∧ v ≤ 50))) (rfl) dX5_isHours_7 hlocks
abbrev rm_X5_divide : Room := { frames := 0, cells := 0, slots := 0, locals := 0 }
set_option maxHeartbeats 4000000 in
set_option maxRecDepth 100000 in
theorem c_X5_divide (l : Launch) (sm : Int32) (dv : Int32) : Met l yX5_divide wsX5_divide rm_X5_divide (kx_Ps [.int sm, .int dv]) (QcRead (kdiv sm dv)) 0 0 (fun _ => False) := by
  refine Met.ofW (cc := cX5_divide) (maxL := 2) (ret := (some .int)) (by decide) rfl ?_
  intro p e s m args below meth c s₁ B hml hv
  obtain rfl := hv
  have hx := B.exec
  have hb := B.bytes
  have hr := B.returns
  have hts := atoms_spec (ws := wsX5_divide) B.pre
  have hown : s.vm.findClass RX5 = some m.cls := findClass_of_methodNamed B.named
  have hlocks := B.notSynchronized
  have hl := lv_entry ([.int sm, .int dv]) (n := 2) (Nat.le_of_ble_eq_true rfl)
  rw [lg_entry_eq]
  generalize (lg_sl ([.int sm, .int dv]) ++ List.replicate (2 - (lg_sl ([.int sm, .int dv])).length) Slot.unset).toArray = ls at hl ⊢
  have hl : lv_has ls 2 [(0, .int sm), (1, .int dv)] := hl
  refine lv_iload_n hx hb dX5_divide_0 rfl (lv_at hl 1 rfl) ?_
  refine lv_if_ne (tgt := 8) hx hb dX5_divide_1 (by decide) (fun c_1 => ?_) (fun c_1 => ?_)
  · skip
    refine lv_iload_n hx hb dX5_divide_8 rfl (lv_at hl 0 rfl) ?_
    refine lv_iload_n hx hb dX5_divide_9 rfl (lv_at hl 1 rfl) ?_
    refine lv_idiv hx hb dX5_divide_10 (c_1) ?_
    exact kx_iret hx hb hr (v := (sm / dv)) (by simp [kdiv, c_1]) dX5_divide_11 hlocks
  · skip
    refine lv_iconst (v := 0) hx hb dX5_divide_4 (by decide) ?_
    refine lv_goto (tgt := 11) hx hb dX5_divide_5 (by decide) ?_
    exact kx_iret hx hb hr (v := 0) (by simp [kdiv, c_1]) dX5_divide_11 hlocks
abbrev rm_X5_mix : Room := { frames := 0, cells := 0, slots := 0, locals := 0 }
set_option maxHeartbeats 4000000 in
set_option maxRecDepth 100000 in
theorem c_X5_mix (l : Launch) (hh : Int64) (v : Int64) : Met l yX5_mix wsX5_mix rm_X5_mix (kx_Ps [.long hh, .long v]) (kx_QL (kmix hh v)) 0 0 (fun _ => False) := by
  refine Met.ofW (cc := cX5_mix) (maxL := 4) (ret := (some .long)) (by decide) rfl ?_
  intro p e s m args below meth c s₁ B hml hv
  obtain rfl := hv
  have hx := B.exec
  have hb := B.bytes
  have hr := B.returns
  have hts := atoms_spec (ws := wsX5_mix) B.pre
  have hown : s.vm.findClass RX5 = some m.cls := findClass_of_methodNamed B.named
  have hlocks := B.notSynchronized
  have hl := lv_entry ([.long hh, .long v]) (n := 4) (Nat.le_of_ble_eq_true rfl)
  rw [lg_entry_eq]
  generalize (lg_sl ([.long hh, .long v]) ++ List.replicate (4 - (lg_sl ([.long hh, .long v])).length) Slot.unset).toArray = ls at hl ⊢
  have hl : lv_has ls 4 [(0, .long hh), (2, .long v)] := hl
  refine lv_ldc2 (v := 31) hx hb hown (hts (.constantLong RX5 206 (31)) (List.mem_of_getElem? (i := 1) rfl)) dX5_mix_0 ?_
  refine lv_lload_n hx hb dX5_mix_3 rfl (lv_at hl 0 rfl) ?_
  refine lv_lmul hx hb dX5_mix_4 ?_
  refine lv_lload_n hx hb dX5_mix_5 rfl (lv_at hl 1 rfl) ?_
  refine lv_ladd hx hb dX5_mix_6 ?_
  exact kx_lret hx hb hr (rfl) dX5_mix_7 hlocks
abbrev rm_X6_in : Room := { frames := 0, cells := 0, slots := 0, locals := 0 }
set_option maxHeartbeats 4000000 in
set_option maxRecDepth 100000 in
theorem c_X6_in (l : Launch) (v : Int32) (low : Int32) (high : Int32) : Met l yX6_in wsX6_in rm_X6_in (kx_Ps [.int v, .int low, .int high]) (QcRead (kb (low ≤ v ∧ v ≤ high))) 0 0 (fun _ => False) := by
  refine Met.ofW (cc := cX6_in) (maxL := 3) (ret := (some .boolean)) (by decide) rfl ?_
  intro p e s m args below meth c s₁ B hml hv
  obtain rfl := hv
  have hx := B.exec
  have hb := B.bytes
  have hr := B.returns
  have hts := atoms_spec (ws := wsX6_in) B.pre
  have hown : s.vm.findClass RX6 = some m.cls := findClass_of_methodNamed B.named
  have hlocks := B.notSynchronized
  have hl := lv_entry ([.int v, .int low, .int high]) (n := 3) (Nat.le_of_ble_eq_true rfl)
  rw [lg_entry_eq]
  generalize (lg_sl ([.int v, .int low, .int high]) ++ List.replicate (3 - (lg_sl ([.int v, .int low, .int high])).length) Slot.unset).toArray = ls at hl ⊢
  have hl : lv_has ls 3 [(0, .int v), (1, .int low), (2, .int high)] := hl
  refine lv_iload_n hx hb dX6_in_0 rfl (lv_at hl 0 rfl) ?_
  refine lv_iload_n hx hb dX6_in_1 rfl (lv_at hl 1 rfl) ?_
  refine lv_icmp_lt (tgt := 14) hx hb dX6_in_2 (by decide) (fun c_1 => ?_) (fun c_1 => ?_)
  · skip
    refine lv_iconst (v := 0) hx hb dX6_in_14 (by decide) ?_
    exact kx_zret hx hb hr (v := 0) (by simp [kb, c_1, Int32.not_le.mpr c_1]) dX6_in_15 hlocks
  · skip
    refine lv_iload_n hx hb dX6_in_5 rfl (lv_at hl 0 rfl) ?_
    refine lv_iload_n hx hb dX6_in_6 rfl (lv_at hl 2 rfl) ?_
    refine lv_icmp_gt (tgt := 14) hx hb dX6_in_7 (by decide) (fun c_2 => ?_) (fun c_2 => ?_)
    · skip
      refine lv_iconst (v := 0) hx hb dX6_in_14 (by decide) ?_
      exact kx_zret hx hb hr (v := 0) (by simp [kb, c_1, Int32.not_lt.mp c_1, c_2, Int32.not_le.mpr c_2]) dX6_in_15 hlocks
    · skip
      refine lv_iconst (v := 1) hx hb dX6_in_10 (by decide) ?_
      refine lv_goto (tgt := 15) hx hb dX6_in_11 (by decide) ?_
      exact kx_zret hx hb hr (v := 1) (by simp [kb, c_1, Int32.not_lt.mp c_1, c_2, Int32.not_lt.mp c_2]) dX6_in_15 hlocks
abbrev rm_X6_isHand : Room := { frames := 1, cells := 0, slots := 0, locals := 22 }
set_option maxHeartbeats 4000000 in
set_option maxRecDepth 100000 in
theorem c_X6_isHand (l : Launch) (v : Int32) : Met l yX6_isHand wsX6_isHand rm_X6_isHand (kx_Ps [.int v]) (QcRead (kb (0 ≤ v ∧ v ≤ 3))) 0 0 (fun _ => False) := by
  refine Met.ofW (cc := cX6_isHand) (maxL := 1) (ret := (some .boolean)) (by decide) rfl ?_
  intro p e s m args below meth c s₁ B hml hv
  obtain rfl := hv
  have hx := B.exec
  have hb := B.bytes
  have hr := B.returns
  have hts := atoms_spec (ws := wsX6_isHand) B.pre
  have hown : s.vm.findClass RX6 = some m.cls := findClass_of_methodNamed B.named
  have hlocks := B.notSynchronized
  have hl := lv_entry ([.int v]) (n := 1) (Nat.le_of_ble_eq_true rfl)
  rw [lg_entry_eq]
  generalize (lg_sl ([.int v]) ++ List.replicate (1 - (lg_sl ([.int v])).length) Slot.unset).toArray = ls at hl ⊢
  have hl : lv_has ls 1 [(0, .int v)] := hl
  refine lv_iload_n hx hb dX6_isHand_0 rfl (lv_at hl 0 rfl) ?_
  refine lv_iconst (v := 0) hx hb dX6_isHand_1 (by decide) ?_
  refine lv_iconst (v := 3) hx hb dX6_isHand_2 (by decide) ?_
  refine kx_ri (va_runS (As := [.int v, .int 0, .int 3]) (rest := []) ⟨hx, hb, hml, hown, hts⟩ (c_X6_in l v 0 3) (va_cwS 3 hts gX6_isHand_X6_in rfl rfl rfl (by decide +kernel) ⟨(Nat.le_of_ble_eq_true rfl), (Nat.le_of_ble_eq_true rfl)⟩) kx_preS rfl rfl hl.1 rfl (lv_room (Nat.le_of_ble_eq_true rfl)) dX6_isHand_3 ⟨Nat.zero_le _, Nat.zero_le _⟩) ?_
  exact kx_zret hx hb hr (v := (kb (0 ≤ v ∧ v ≤ 3))) (rfl) dX6_isHand_6 hlocks
abbrev rm_X6_isBody : Room := { frames := 1, cells := 0, slots := 0, locals := 22 }
set_option maxHeartbeats 4000000 in
set_option maxRecDepth 100000 in
theorem c_X6_isBody (l : Launch) (v : Int32) : Met l yX6_isBody wsX6_isBody rm_X6_isBody (kx_Ps [.int v]) (QcRead (kb (0 ≤ v ∧ v ≤ 5))) 0 0 (fun _ => False) := by
  refine Met.ofW (cc := cX6_isBody) (maxL := 1) (ret := (some .boolean)) (by decide) rfl ?_
  intro p e s m args below meth c s₁ B hml hv
  obtain rfl := hv
  have hx := B.exec
  have hb := B.bytes
  have hr := B.returns
  have hts := atoms_spec (ws := wsX6_isBody) B.pre
  have hown : s.vm.findClass RX6 = some m.cls := findClass_of_methodNamed B.named
  have hlocks := B.notSynchronized
  have hl := lv_entry ([.int v]) (n := 1) (Nat.le_of_ble_eq_true rfl)
  rw [lg_entry_eq]
  generalize (lg_sl ([.int v]) ++ List.replicate (1 - (lg_sl ([.int v])).length) Slot.unset).toArray = ls at hl ⊢
  have hl : lv_has ls 1 [(0, .int v)] := hl
  refine lv_iload_n hx hb dX6_isBody_0 rfl (lv_at hl 0 rfl) ?_
  refine lv_iconst (v := 0) hx hb dX6_isBody_1 (by decide) ?_
  refine lv_iconst (v := 5) hx hb dX6_isBody_2 (by decide) ?_
  refine kx_ri (va_runS (As := [.int v, .int 0, .int 5]) (rest := []) ⟨hx, hb, hml, hown, hts⟩ (c_X6_in l v 0 5) (va_cwS 3 hts gX6_isBody_X6_in rfl rfl rfl (by decide +kernel) ⟨(Nat.le_of_ble_eq_true rfl), (Nat.le_of_ble_eq_true rfl)⟩) kx_preS rfl rfl hl.1 rfl (lv_room (Nat.le_of_ble_eq_true rfl)) dX6_isBody_3 ⟨Nat.zero_le _, Nat.zero_le _⟩) ?_
  exact kx_zret hx hb hr (v := (kb (0 ≤ v ∧ v ≤ 5))) (rfl) dX6_isBody_6 hlocks
abbrev rm_X6_isPlace : Room := { frames := 1, cells := 0, slots := 0, locals := 22 }
set_option maxHeartbeats 4000000 in
set_option maxRecDepth 100000 in
theorem c_X6_isPlace (l : Launch) (v : Int32) : Met l yX6_isPlace wsX6_isPlace rm_X6_isPlace (kx_Ps [.int v]) (QcRead (kb ((-5000) ≤ v ∧ v ≤ 5000))) 0 0 (fun _ => False) := by
  refine Met.ofW (cc := cX6_isPlace) (maxL := 1) (ret := (some .boolean)) (by decide) rfl ?_
  intro p e s m args below meth c s₁ B hml hv
  obtain rfl := hv
  have hx := B.exec
  have hb := B.bytes
  have hr := B.returns
  have hts := atoms_spec (ws := wsX6_isPlace) B.pre
  have hown : s.vm.findClass RX6 = some m.cls := findClass_of_methodNamed B.named
  have hlocks := B.notSynchronized
  have hl := lv_entry ([.int v]) (n := 1) (Nat.le_of_ble_eq_true rfl)
  rw [lg_entry_eq]
  generalize (lg_sl ([.int v]) ++ List.replicate (1 - (lg_sl ([.int v])).length) Slot.unset).toArray = ls at hl ⊢
  have hl : lv_has ls 1 [(0, .int v)] := hl
  refine lv_iload_n hx hb dX6_isPlace_0 rfl (lv_at hl 0 rfl) ?_
  refine lv_sipush (v := (-5000)) hx hb dX6_isPlace_1 (by decide) ?_
  refine lv_sipush (v := 5000) hx hb dX6_isPlace_4 (by decide) ?_
  refine kx_ri (va_runS (As := [.int v, .int (-5000), .int 5000]) (rest := []) ⟨hx, hb, hml, hown, hts⟩ (c_X6_in l v (-5000) 5000) (va_cwS 3 hts gX6_isPlace_X6_in rfl rfl rfl (by decide +kernel) ⟨(Nat.le_of_ble_eq_true rfl), (Nat.le_of_ble_eq_true rfl)⟩) kx_preS rfl rfl hl.1 rfl (lv_room (Nat.le_of_ble_eq_true rfl)) dX6_isPlace_7 ⟨Nat.zero_le _, Nat.zero_le _⟩) ?_
  exact kx_zret hx hb hr (v := (kb ((-5000) ≤ v ∧ v ≤ 5000))) (rfl) dX6_isPlace_10 hlocks
abbrev rm_X6_isHours : Room := { frames := 1, cells := 0, slots := 0, locals := 22 }
set_option maxHeartbeats 4000000 in
set_option maxRecDepth 100000 in
theorem c_X6_isHours (l : Launch) (v : Int32) : Met l yX6_isHours wsX6_isHours rm_X6_isHours (kx_Ps [.int v]) (QcRead (kb (1 ≤ v ∧ v ≤ 50))) 0 0 (fun _ => False) := by
  refine Met.ofW (cc := cX6_isHours) (maxL := 1) (ret := (some .boolean)) (by decide) rfl ?_
  intro p e s m args below meth c s₁ B hml hv
  obtain rfl := hv
  have hx := B.exec
  have hb := B.bytes
  have hr := B.returns
  have hts := atoms_spec (ws := wsX6_isHours) B.pre
  have hown : s.vm.findClass RX6 = some m.cls := findClass_of_methodNamed B.named
  have hlocks := B.notSynchronized
  have hl := lv_entry ([.int v]) (n := 1) (Nat.le_of_ble_eq_true rfl)
  rw [lg_entry_eq]
  generalize (lg_sl ([.int v]) ++ List.replicate (1 - (lg_sl ([.int v])).length) Slot.unset).toArray = ls at hl ⊢
  have hl : lv_has ls 1 [(0, .int v)] := hl
  refine lv_iload_n hx hb dX6_isHours_0 rfl (lv_at hl 0 rfl) ?_
  refine lv_iconst (v := 1) hx hb dX6_isHours_1 (by decide) ?_
  refine lv_bipush (v := 50) hx hb dX6_isHours_2 (by decide) ?_
  refine kx_ri (va_runS (As := [.int v, .int 1, .int 50]) (rest := []) ⟨hx, hb, hml, hown, hts⟩ (c_X6_in l v 1 50) (va_cwS 3 hts gX6_isHours_X6_in rfl rfl rfl (by decide +kernel) ⟨(Nat.le_of_ble_eq_true rfl), (Nat.le_of_ble_eq_true rfl)⟩) kx_preS rfl rfl hl.1 rfl (lv_room (Nat.le_of_ble_eq_true rfl)) dX6_isHours_4 ⟨Nat.zero_le _, Nat.zero_le _⟩) ?_
  exact kx_zret hx hb hr (v := (kb (1 ≤ v ∧ v ≤ 50))) (rfl) dX6_isHours_7 hlocks
abbrev rm_X5_root : Room := { frames := 0, cells := 0, slots := 0, locals := 0 }
set_option maxHeartbeats 4000000 in
set_option maxRecDepth 100000 in
theorem c_X5_root (l : Launch) (sq : Int64) : Met l yX5_root wsX5_root rm_X5_root (kx_Ps [.long sq]) (QcRead (kroot sq)) 0 0 (fun _ => False) := by
  refine Met.ofW (cc := cX5_root) (maxL := 7) (ret := (some .int)) (by decide) rfl ?_
  intro p e s m args below meth c s₁ B hml hv
  obtain rfl := hv
  have hx := B.exec
  have hb := B.bytes
  have hr := B.returns
  have hts := atoms_spec (ws := wsX5_root) B.pre
  have hown : s.vm.findClass RX5 = some m.cls := findClass_of_methodNamed B.named
  have hlocks := B.notSynchronized
  have hl := lv_entry ([.long sq]) (n := 7) (Nat.le_of_ble_eq_true rfl)
  rw [lg_entry_eq]
  generalize (lg_sl ([.long sq]) ++ List.replicate (7 - (lg_sl ([.long sq])).length) Slot.unset).toArray = ls at hl ⊢
  have hl : lv_has ls 7 [(0, .long sq)] := hl
  refine lv_lconst (v := 0) hx hb dX5_root_0 (by decide) ?_
  refine lv_lstore_n (lv' := [(2, .long 0), (0, .long sq)]) hx hb dX5_root_1 rfl hl (by decide) rfl (fun ls hl => ?_)
  refine lv_bipush (v := 30) hx hb dX5_root_2 (by decide) ?_
  refine lv_istore (lv' := [(4, .int 30), (2, .long 0), (0, .long sq)]) hx hb dX5_root_4 hl (by decide) rfl (fun ls hl => ?_)
  have lab_6_1 : ∀ (nn_1 : Nat) (n : Nat) (z1_0 : Int64) (z1_1 : Int32) (hn31 : n ≤ 31) (ez1_0 : (kRt sq n) = z1_0) (ez1_1 : (nI (31 - n) - 1) = z1_1) (ls : Array Slot) (hl : lv_has ls 7 [(4, .int z1_1), (2, .long z1_0), (0, .long sq)]), (31 - n) < nn_1 → W p l e (headSpec wsX5_root rm_X5_root).room s m ([.long sq] : List Value).toArray below meth c s.heap [] 0 0 (MQ below (QcRead (kroot sq)) ([.long sq] : List Value).toArray s 0 0 (fun _ => False)) (F0 m 6 ls []) := by
    intro nn_1
    induction nn_1 with
    | zero => intro n z1_0 z1_1 hn31 ez1_0 ez1_1 ls hl hn; exact absurd hn (Nat.not_lt_zero _)
    | succ nn_1 ih_1 =>
      intro n z1_0 z1_1 hn31 ez1_0 ez1_1 ls hl hn_1
      subst ez1_0
      subst ez1_1
      refine lv_iload hx hb dX5_root_6 (lv_at hl 0 rfl) ?_
      refine lv_if_lt (tgt := 38) hx hb dX5_root_8 (by decide) (fun c_2 => ?_) (fun c_2 => ?_)
      · skip
        have hE : n = 31 := kx_rte hn31 c_2
        subst hE
        refine lv_lload_n hx hb dX5_root_38 rfl (lv_at hl 1 rfl) ?_
        refine lv_l2i hx hb dX5_root_39 rfl ?_
        exact kx_iret hx hb hr (v := ((kRt sq 31).toInt32)) (rfl) dX5_root_40 hlocks
      · skip
        have hn30 : n < 31 := kx_rtn hn31 c_2
        refine lv_lload_n hx hb dX5_root_11 rfl (lv_at hl 1 rfl) ?_
        refine lv_lconst (v := 1) hx hb dX5_root_12 (by decide) ?_
        refine lv_iload hx hb dX5_root_13 (lv_at hl 0 rfl) ?_
        refine lv_lshl hx hb dX5_root_15 rfl ?_
        refine lv_ladd hx hb dX5_root_16 ?_
        refine lv_lstore (lv' := [(5, .long ((kRt sq n) + (1 <<< ((nI (31 - n) - 1).toInt64 &&& 63)))), (4, .int (nI (31 - n) - 1)), (2, .long (kRt sq n)), (0, .long sq)]) hx hb dX5_root_17 hl (by decide) rfl (fun ls hl => ?_)
        refine lv_lload hx hb dX5_root_19 (lv_at hl 0 rfl) ?_
        refine lv_lload hx hb dX5_root_21 (lv_at hl 0 rfl) ?_
        refine lv_lmul hx hb dX5_root_23 ?_
        refine lv_lload_n hx hb dX5_root_24 rfl (lv_at hl 3 rfl) ?_
        refine W.lcmp hx hb dX5_root_25 ?_
        refine kx_lgt hx hb (tgt := 32) dX5_root_26 (by decide) (fun c_3 => ?_) (fun c_3 => ?_)
        · skip
          refine lv_iinc (v := nI (31 - n) - 1 + (-1)) (lv' := [(4, .int (nI (31 - n) - 1 + (-1))), (5, .long ((kRt sq n) + (1 <<< ((nI (31 - n) - 1).toInt64 &&& 63)))), (2, .long (kRt sq n)), (0, .long sq)]) hx hb dX5_root_32 hl (k := 1) rfl (rfl) (by decide) rfl (fun ls hl => ?_)
          refine lv_goto (tgt := 6) hx hb dX5_root_35 (by decide) ?_
          exact ih_1 (n + 1) (kRt sq n) (nI (31 - n) - 1 + (-1)) (by omega) (by first | exact kx_rtb hn30 | simp [kRt, c_2, Int32.not_lt.mp c_2, c_3, Int64.not_le.mpr c_3]) (by first | exact kx_rtb hn30 | simp [kRt, c_2, Int32.not_lt.mp c_2, c_3, Int64.not_le.mpr c_3]) ls (lv_sub hl [0, 2, 3] rfl) (by omega)
        · skip
          refine lv_lload hx hb dX5_root_29 (lv_at hl 0 rfl) ?_
          refine lv_lstore_n (lv' := [(2, .long ((kRt sq n) + (1 <<< ((nI (31 - n) - 1).toInt64 &&& 63)))), (5, .long ((kRt sq n) + (1 <<< ((nI (31 - n) - 1).toInt64 &&& 63)))), (4, .int (nI (31 - n) - 1)), (0, .long sq)]) hx hb dX5_root_31 rfl hl (by decide) rfl (fun ls hl => ?_)
          refine lv_iinc (v := nI (31 - n) - 1 + (-1)) (lv' := [(4, .int (nI (31 - n) - 1 + (-1))), (2, .long ((kRt sq n) + (1 <<< ((nI (31 - n) - 1).toInt64 &&& 63)))), (5, .long ((kRt sq n) + (1 <<< ((nI (31 - n) - 1).toInt64 &&& 63)))), (0, .long sq)]) hx hb dX5_root_32 hl (k := 2) rfl (rfl) (by decide) rfl (fun ls hl => ?_)
          refine lv_goto (tgt := 6) hx hb dX5_root_35 (by decide) ?_
          exact ih_1 (n + 1) ((kRt sq n) + (1 <<< ((nI (31 - n) - 1).toInt64 &&& 63))) (nI (31 - n) - 1 + (-1)) (by omega) (by first | exact kx_rtb hn30 | simp [kRt, c_2, Int32.not_lt.mp c_2, c_3, Int64.not_lt.mpr c_3]) (by first | exact kx_rtb hn30 | simp [kRt, c_2, Int32.not_lt.mp c_2, c_3, Int64.not_lt.mpr c_3]) ls (lv_sub hl [0, 1, 3] rfl) (by omega)
  exact lab_6_1 ((31 - 0) + 1) 0 0 30 (by omega) (rfl) (rfl) ls (lv_sub hl [0, 1, 2] rfl) (Nat.lt_succ_self _)
abbrev rm_X3_isOf : Room := { frames := 0, cells := 0, slots := 0, locals := 0 }
set_option maxHeartbeats 4000000 in
set_option maxRecDepth 100000 in
theorem c_X3_isOf (l : Launch) (G : va_G) (cI cZ : ClassId) (hT : Nat) (hT0 : Nat) (hT1 : Nat) (hT2 : Nat) (hT3 : Nat) (hT4 : Nat) (hT5 : Nat) (hd : Nat → Int32) (bd : Nat → Int32) (ms : Nat → Int32) (dy : Nat → Int32) (vl : Nat → Int32) (hbt : Nat → Int32) (told : Nat) (i : Nat) (body : Int32) (measure : Int32) (hi : i < 40) : Met l yX3_isOf wsX3_isOf rm_X3_isOf (kx_Pr G cI cZ [(hT, .inr (3, [.ref hT0, .ref hT1, .ref hT2, .ref hT3, .ref hT4, .ref hT5, .int (nI told)])), (hT0, .inl (cI, 40, .inl hd)), (hT1, .inl (cI, 40, .inl bd)), (hT2, .inl (cI, 40, .inl ms)), (hT3, .inl (cI, 40, .inl dy)), (hT4, .inl (cI, 40, .inl vl)), (hT5, .inl (cI, 24, .inl hbt))] [.ref hT, .int (nI i), .int body, .int measure]) (QcRead (kb (bd i = body ∧ ms i = measure))) 0 0 (fun _ => False) := by
  refine Met.ofW (cc := cX3_isOf) (maxL := 4) (ret := (some .boolean)) (by decide) rfl ?_
  intro p e s m args below meth c s₁ B hml hv
  obtain ⟨rfl, hP, hK⟩ := hv
  have hx := B.exec
  have hb := B.bytes
  have hr := B.returns
  have hts := atoms_spec (ws := wsX3_isOf) B.pre
  have hown : s.vm.findClass RX3 = some m.cls := findClass_of_methodNamed B.named
  have hlocks := B.notSynchronized
  have hl := lv_entry ([.ref hT, .int (nI i), .int body, .int measure]) (n := 4) (Nat.le_of_ble_eq_true rfl)
  rw [lg_entry_eq]
  generalize (lg_sl ([.ref hT, .int (nI i), .int body, .int measure]) ++ List.replicate (4 - (lg_sl ([.ref hT, .int (nI i), .int body, .int measure])).length) Slot.unset).toArray = ls at hl ⊢
  have hl : lv_has ls 4 [(0, .ref hT), (1, .int (nI i)), (2, .int body), (3, .int measure)] := hl
  refine lv_aload_n hx hb dX3_isOf_0 rfl (lv_at hl 0 rfl) ?_
  refine va_get (D := G) (ci := 3) (v := .ref hT1) (C := RX3) (T := TX3) (N := 7) hx hb hts (fun _ h => List.mem_cons_of_mem _ (List.mem_append_right _ h)) hown hK.1 hP 0 rfl rfl 1 (by decide) (hts (.fieldLink RX3 15 "TailorHouse$Tellings" "bodies" "[I") (List.mem_of_getElem? (i := 1) rfl)) (fun _ h9 => h9) rfl dX3_isOf_1 ?_
  refine lv_iload_n hx hb dX3_isOf_4 rfl (lv_at hl 1 rfl) ?_
  refine kx_ialdN hx hb hK.1 hP 2 rfl rfl i (by omega) (by decide) dX3_isOf_5 ?_
  refine lv_iload_n hx hb dX3_isOf_6 rfl (lv_at hl 2 rfl) ?_
  refine lv_icmp_ne (tgt := 24) hx hb dX3_isOf_7 (by decide) (fun c_1 => ?_) (fun c_1 => ?_)
  · skip
    refine lv_iconst (v := 0) hx hb dX3_isOf_24 (by decide) ?_
    exact kx_zret hx hb hr (v := 0) (by simp [kb, c_1]) dX3_isOf_25 hlocks
  · skip
    refine lv_aload_n hx hb dX3_isOf_10 rfl (lv_at hl 0 rfl) ?_
    refine va_get (D := G) (ci := 3) (v := .ref hT2) (C := RX3) (T := TX3) (N := 7) hx hb hts (fun _ h => List.mem_cons_of_mem _ (List.mem_append_right _ h)) hown hK.1 hP 0 rfl rfl 2 (by decide) (hts (.fieldLink RX3 18 "TailorHouse$Tellings" "measures" "[I") (List.mem_of_getElem? (i := 2) rfl)) (fun _ h9 => h9) rfl dX3_isOf_11 ?_
    refine lv_iload_n hx hb dX3_isOf_14 rfl (lv_at hl 1 rfl) ?_
    refine kx_ialdN hx hb hK.1 hP 3 rfl rfl i (by omega) (by decide) dX3_isOf_15 ?_
    refine lv_iload_n hx hb dX3_isOf_16 rfl (lv_at hl 3 rfl) ?_
    refine lv_icmp_ne (tgt := 24) hx hb dX3_isOf_17 (by decide) (fun c_2 => ?_) (fun c_2 => ?_)
    · skip
      refine lv_iconst (v := 0) hx hb dX3_isOf_24 (by decide) ?_
      exact kx_zret hx hb hr (v := 0) (by simp [kb, c_1, c_2]) dX3_isOf_25 hlocks
    · skip
      refine lv_iconst (v := 1) hx hb dX3_isOf_20 (by decide) ?_
      refine lv_goto (tgt := 25) hx hb dX3_isOf_21 (by decide) ?_
      exact kx_zret hx hb hr (v := 1) (by simp [kb, c_1, c_2]) dX3_isOf_25 hlocks
abbrev rm_X3_isLikeTelling : Room := { frames := 0, cells := 0, slots := 0, locals := 0 }
set_option maxHeartbeats 4000000 in
set_option maxRecDepth 100000 in
theorem c_X3_isLikeTelling (l : Launch) (G : va_G) (cI cZ : ClassId) (hT : Nat) (hT0 : Nat) (hT1 : Nat) (hT2 : Nat) (hT3 : Nat) (hT4 : Nat) (hT5 : Nat) (hd : Nat → Int32) (bd : Nat → Int32) (ms : Nat → Int32) (dy : Nat → Int32) (vl : Nat → Int32) (hbt : Nat → Int32) (told : Nat) (i : Nat) (j : Nat) (hi : i < 40) (hj : j < 40) : Met l yX3_isLikeTelling wsX3_isLikeTelling rm_X3_isLikeTelling (kx_Pr G cI cZ [(hT, .inr (3, [.ref hT0, .ref hT1, .ref hT2, .ref hT3, .ref hT4, .ref hT5, .int (nI told)])), (hT0, .inl (cI, 40, .inl hd)), (hT1, .inl (cI, 40, .inl bd)), (hT2, .inl (cI, 40, .inl ms)), (hT3, .inl (cI, 40, .inl dy)), (hT4, .inl (cI, 40, .inl vl)), (hT5, .inl (cI, 24, .inl hbt))] [.ref hT, .int (nI i), .int (nI j)]) (QcRead (kb (ms i = ms j ∧ bd i = bd j ∧ dy i = dy j))) 0 0 (fun _ => False) := by
  refine Met.ofW (cc := cX3_isLikeTelling) (maxL := 3) (ret := (some .boolean)) (by decide) rfl ?_
  intro p e s m args below meth c s₁ B hml hv
  obtain ⟨rfl, hP, hK⟩ := hv
  have hx := B.exec
  have hb := B.bytes
  have hr := B.returns
  have hts := atoms_spec (ws := wsX3_isLikeTelling) B.pre
  have hown : s.vm.findClass RX3 = some m.cls := findClass_of_methodNamed B.named
  have hlocks := B.notSynchronized
  have hl := lv_entry ([.ref hT, .int (nI i), .int (nI j)]) (n := 3) (Nat.le_of_ble_eq_true rfl)
  rw [lg_entry_eq]
  generalize (lg_sl ([.ref hT, .int (nI i), .int (nI j)]) ++ List.replicate (3 - (lg_sl ([.ref hT, .int (nI i), .int (nI j)])).length) Slot.unset).toArray = ls at hl ⊢
  have hl : lv_has ls 3 [(0, .ref hT), (1, .int (nI i)), (2, .int (nI j))] := hl
  refine lv_aload_n hx hb dX3_isLikeTelling_0 rfl (lv_at hl 0 rfl) ?_
  refine va_get (D := G) (ci := 3) (v := .ref hT2) (C := RX3) (T := TX3) (N := 7) hx hb hts (fun _ h => List.mem_cons_of_mem _ (List.mem_append_right _ h)) hown hK.1 hP 0 rfl rfl 2 (by decide) (hts (.fieldLink RX3 18 "TailorHouse$Tellings" "measures" "[I") (List.mem_of_getElem? (i := 1) rfl)) (fun _ h9 => h9) rfl dX3_isLikeTelling_1 ?_
  refine lv_iload_n hx hb dX3_isLikeTelling_4 rfl (lv_at hl 1 rfl) ?_
  refine kx_ialdN hx hb hK.1 hP 3 rfl rfl i (by omega) (by decide) dX3_isLikeTelling_5 ?_
  refine lv_aload_n hx hb dX3_isLikeTelling_6 rfl (lv_at hl 0 rfl) ?_
  refine va_get (D := G) (ci := 3) (v := .ref hT2) (C := RX3) (T := TX3) (N := 7) hx hb hts (fun _ h => List.mem_cons_of_mem _ (List.mem_append_right _ h)) hown hK.1 hP 0 rfl rfl 2 (by decide) (hts (.fieldLink RX3 18 "TailorHouse$Tellings" "measures" "[I") (List.mem_of_getElem? (i := 1) rfl)) (fun _ h9 => h9) rfl dX3_isLikeTelling_7 ?_
  refine lv_iload_n hx hb dX3_isLikeTelling_10 rfl (lv_at hl 2 rfl) ?_
  refine kx_ialdN hx hb hK.1 hP 3 rfl rfl j (by omega) (by decide) dX3_isLikeTelling_11 ?_
  refine lv_icmp_ne (tgt := 49) hx hb dX3_isLikeTelling_12 (by decide) (fun c_1 => ?_) (fun c_1 => ?_)
  · skip
    refine lv_iconst (v := 0) hx hb dX3_isLikeTelling_49 (by decide) ?_
    exact kx_zret hx hb hr (v := 0) (by simp [kb, c_1]) dX3_isLikeTelling_50 hlocks
  · skip
    refine lv_aload_n hx hb dX3_isLikeTelling_15 rfl (lv_at hl 0 rfl) ?_
    refine va_get (D := G) (ci := 3) (v := .ref hT1) (C := RX3) (T := TX3) (N := 7) hx hb hts (fun _ h => List.mem_cons_of_mem _ (List.mem_append_right _ h)) hown hK.1 hP 0 rfl rfl 1 (by decide) (hts (.fieldLink RX3 15 "TailorHouse$Tellings" "bodies" "[I") (List.mem_of_getElem? (i := 2) rfl)) (fun _ h9 => h9) rfl dX3_isLikeTelling_16 ?_
    refine lv_iload_n hx hb dX3_isLikeTelling_19 rfl (lv_at hl 1 rfl) ?_
    refine kx_ialdN hx hb hK.1 hP 2 rfl rfl i (by omega) (by decide) dX3_isLikeTelling_20 ?_
    refine lv_aload_n hx hb dX3_isLikeTelling_21 rfl (lv_at hl 0 rfl) ?_
    refine va_get (D := G) (ci := 3) (v := .ref hT1) (C := RX3) (T := TX3) (N := 7) hx hb hts (fun _ h => List.mem_cons_of_mem _ (List.mem_append_right _ h)) hown hK.1 hP 0 rfl rfl 1 (by decide) (hts (.fieldLink RX3 15 "TailorHouse$Tellings" "bodies" "[I") (List.mem_of_getElem? (i := 2) rfl)) (fun _ h9 => h9) rfl dX3_isLikeTelling_22 ?_
    refine lv_iload_n hx hb dX3_isLikeTelling_25 rfl (lv_at hl 2 rfl) ?_
    refine kx_ialdN hx hb hK.1 hP 2 rfl rfl j (by omega) (by decide) dX3_isLikeTelling_26 ?_
    refine lv_icmp_ne (tgt := 49) hx hb dX3_isLikeTelling_27 (by decide) (fun c_2 => ?_) (fun c_2 => ?_)
    · skip
      refine lv_iconst (v := 0) hx hb dX3_isLikeTelling_49 (by decide) ?_
      exact kx_zret hx hb hr (v := 0) (by simp [kb, c_1, c_2]) dX3_isLikeTelling_50 hlocks
    · skip
      refine lv_aload_n hx hb dX3_isLikeTelling_30 rfl (lv_at hl 0 rfl) ?_
      refine va_get (D := G) (ci := 3) (v := .ref hT3) (C := RX3) (T := TX3) (N := 7) hx hb hts (fun _ h => List.mem_cons_of_mem _ (List.mem_append_right _ h)) hown hK.1 hP 0 rfl rfl 3 (by decide) (hts (.fieldLink RX3 21 "TailorHouse$Tellings" "days" "[I") (List.mem_of_getElem? (i := 3) rfl)) (fun _ h9 => h9) rfl dX3_isLikeTelling_31 ?_
      refine lv_iload_n hx hb dX3_isLikeTelling_34 rfl (lv_at hl 1 rfl) ?_
      refine kx_ialdN hx hb hK.1 hP 4 rfl rfl i (by omega) (by decide) dX3_isLikeTelling_35 ?_
      refine lv_aload_n hx hb dX3_isLikeTelling_36 rfl (lv_at hl 0 rfl) ?_
      refine va_get (D := G) (ci := 3) (v := .ref hT3) (C := RX3) (T := TX3) (N := 7) hx hb hts (fun _ h => List.mem_cons_of_mem _ (List.mem_append_right _ h)) hown hK.1 hP 0 rfl rfl 3 (by decide) (hts (.fieldLink RX3 21 "TailorHouse$Tellings" "days" "[I") (List.mem_of_getElem? (i := 3) rfl)) (fun _ h9 => h9) rfl dX3_isLikeTelling_37 ?_
      refine lv_iload_n hx hb dX3_isLikeTelling_40 rfl (lv_at hl 2 rfl) ?_
      refine kx_ialdN hx hb hK.1 hP 4 rfl rfl j (by omega) (by decide) dX3_isLikeTelling_41 ?_
      refine lv_icmp_ne (tgt := 49) hx hb dX3_isLikeTelling_42 (by decide) (fun c_3 => ?_) (fun c_3 => ?_)
      · skip
        refine lv_iconst (v := 0) hx hb dX3_isLikeTelling_49 (by decide) ?_
        exact kx_zret hx hb hr (v := 0) (by simp [kb, c_1, c_2, c_3]) dX3_isLikeTelling_50 hlocks
      · skip
        refine lv_iconst (v := 1) hx hb dX3_isLikeTelling_45 (by decide) ?_
        refine lv_goto (tgt := 50) hx hb dX3_isLikeTelling_46 (by decide) ?_
        exact kx_zret hx hb hr (v := 1) (by simp [kb, c_1, c_2, c_3]) dX3_isLikeTelling_50 hlocks
abbrev rm_X3_lastDayBefore : Room := { frames := 1, cells := 0, slots := 0, locals := 23 }
set_option maxHeartbeats 4000000 in
set_option maxRecDepth 100000 in
theorem c_X3_lastDayBefore (l : Launch) (G : va_G) (cI cZ : ClassId) (hT : Nat) (hT0 : Nat) (hT1 : Nat) (hT2 : Nat) (hT3 : Nat) (hT4 : Nat) (hT5 : Nat) (hd : Nat → Int32) (bd : Nat → Int32) (ms : Nat → Int32) (dy : Nat → Int32) (vl : Nat → Int32) (hbt : Nat → Int32) (told : Nat) (body : Int32) (measure : Int32) (limit : Int32) (hTo : told ≤ 40) : Met l yX3_lastDayBefore wsX3_lastDayBefore rm_X3_lastDayBefore (kx_Pr G cI cZ [(hT, .inr (3, [.ref hT0, .ref hT1, .ref hT2, .ref hT3, .ref hT4, .ref hT5, .int (nI told)])), (hT0, .inl (cI, 40, .inl hd)), (hT1, .inl (cI, 40, .inl bd)), (hT2, .inl (cI, 40, .inl ms)), (hT3, .inl (cI, 40, .inl dy)), (hT4, .inl (cI, 40, .inl vl)), (hT5, .inl (cI, 24, .inl hbt))] [.ref hT, .int body, .int measure, .int limit]) (QcRead (kLast bd ms dy body measure limit told)) 0 0 (fun _ => False) := by
  refine Met.ofW (cc := cX3_lastDayBefore) (maxL := 6) (ret := (some .int)) (by decide) rfl ?_
  intro p e s m args below meth c s₁ B hml hv
  obtain ⟨rfl, hP, hK⟩ := hv
  have hx := B.exec
  have hb := B.bytes
  have hr := B.returns
  have hts := atoms_spec (ws := wsX3_lastDayBefore) B.pre
  have hown : s.vm.findClass RX3 = some m.cls := findClass_of_methodNamed B.named
  have hlocks := B.notSynchronized
  have hl := lv_entry ([.ref hT, .int body, .int measure, .int limit]) (n := 6) (Nat.le_of_ble_eq_true rfl)
  rw [lg_entry_eq]
  generalize (lg_sl ([.ref hT, .int body, .int measure, .int limit]) ++ List.replicate (6 - (lg_sl ([.ref hT, .int body, .int measure, .int limit])).length) Slot.unset).toArray = ls at hl ⊢
  have hl : lv_has ls 6 [(0, .ref hT), (1, .int body), (2, .int measure), (3, .int limit)] := hl
  refine lv_iconst (v := (-1)) hx hb dX3_lastDayBefore_0 (by decide) ?_
  refine lv_istore (lv' := [(4, .int (-1)), (0, .ref hT), (1, .int body), (2, .int measure), (3, .int limit)]) hx hb dX3_lastDayBefore_1 hl (by decide) rfl (fun ls hl => ?_)
  refine lv_iconst (v := 0) hx hb dX3_lastDayBefore_3 (by decide) ?_
  refine lv_istore (lv' := [(5, .int 0), (4, .int (-1)), (0, .ref hT), (1, .int body), (2, .int measure), (3, .int limit)]) hx hb dX3_lastDayBefore_4 hl (by decide) rfl (fun ls hl => ?_)
  have lab_6_1 : ∀ (nn_1 : Nat) (i : Nat) (z1_0 : Int32) (z1_1 : Nat) (hi : i ≤ told) (ez1_0 : (kLast bd ms dy body measure limit i) = z1_0) (ez1_1 : i = z1_1) (ls : Array Slot) (hl : lv_has ls 6 [(5, .int (nI z1_1)), (4, .int z1_0), (0, .ref hT), (1, .int body), (2, .int measure), (3, .int limit)]), (told - i) < nn_1 → W p l e (headSpec wsX3_lastDayBefore rm_X3_lastDayBefore).room s m ([.ref hT, .int body, .int measure, .int limit] : List Value).toArray below meth c s.heap [] 0 0 (MQ below (QcRead (kLast bd ms dy body measure limit told)) ([.ref hT, .int body, .int measure, .int limit] : List Value).toArray s 0 0 (fun _ => False)) (F0 m 6 ls []) := by
    intro nn_1
    induction nn_1 with
    | zero => intro i z1_0 z1_1 hi ez1_0 ez1_1 ls hl hn; exact absurd hn (Nat.not_lt_zero _)
    | succ nn_1 ih_1 =>
      intro i z1_0 z1_1 hi ez1_0 ez1_1 ls hl hn_1
      subst ez1_0
      subst ez1_1
      refine lv_iload hx hb dX3_lastDayBefore_6 (lv_at hl 0 rfl) ?_
      refine lv_aload_n hx hb dX3_lastDayBefore_8 rfl (lv_at hl 2 rfl) ?_
      refine va_get (D := G) (ci := 3) (v := .int (nI told)) (C := RX3) (T := TX3) (N := 7) hx hb hts (fun _ h => List.mem_cons_of_mem _ (List.mem_append_right _ h)) hown hK.1 hP 0 rfl rfl 6 (by decide) (hts (.fieldLink RX3 30 "TailorHouse$Tellings" "told" "I") (List.mem_of_getElem? (i := 1) rfl)) (fun _ h9 => h9) rfl dX3_lastDayBefore_9 ?_
      refine kx_geN hx hb i told (by omega) (by omega) (tgt := 64) dX3_lastDayBefore_12 (by decide) (fun c_2 => ?_) (fun c_2 => ?_)
      · skip
        have hE : told = i := by omega
        subst hE
        refine lv_iload hx hb dX3_lastDayBefore_64 (lv_at hl 1 rfl) ?_
        exact kx_iret hx hb hr (v := (kLast bd ms dy body measure limit told)) (rfl) dX3_lastDayBefore_66 hlocks
      · skip
        refine lv_aload_n hx hb dX3_lastDayBefore_15 rfl (lv_at hl 2 rfl) ?_
        refine lv_iload hx hb dX3_lastDayBefore_16 (lv_at hl 0 rfl) ?_
        refine lv_iload_n hx hb dX3_lastDayBefore_18 rfl (lv_at hl 3 rfl) ?_
        refine lv_iload_n hx hb dX3_lastDayBefore_19 rfl (lv_at hl 4 rfl) ?_
        refine kx_ri (va_runV (As := [.int (nI i), .int body, .int measure]) (rest := []) ⟨hx, hb, hml, hown, hts⟩ (c_X3_isOf l G cI cZ hT hT0 hT1 hT2 hT3 hT4 hT5 hd bd ms dy vl hbt told i body measure (by first | assumption | omega)) (cwV 3 hts gX3_lastDayBefore_X3_isOf rfl rfl rfl (by decide +kernel) ⟨(Nat.le_of_ble_eq_true rfl), (Nat.le_of_ble_eq_true rfl)⟩) (kx_preR hK (kx_sub 0 7 hP rfl) 0 rfl rfl) rfl rfl hl.1 rfl (lv_room (Nat.le_of_ble_eq_true rfl)) dX3_lastDayBefore_20 ⟨Nat.zero_le _, Nat.zero_le _⟩) ?_
        refine kx_ifeqB hx hb (bd i = body ∧ ms i = measure) (tgt := 58) dX3_lastDayBefore_23 (by decide) (fun c_3 => ?_) (fun c_3 => ?_)
        · skip
          refine lv_iinc (v := nI (i + 1)) (lv' := [(5, .int (nI (i + 1))), (4, .int (kLast bd ms dy body measure limit i)), (0, .ref hT), (1, .int body), (2, .int measure), (3, .int limit)]) hx hb dX3_lastDayBefore_58 hl (k := 0) rfl (nI_1 i) (by decide) rfl (fun ls hl => ?_)
          refine lv_goto (tgt := 6) hx hb dX3_lastDayBefore_61 (by decide) ?_
          exact ih_1 (i + 1) (kLast bd ms dy body measure limit i) (i + 1) (by omega) (by simp [kLast, c_2, Nat.not_le.mpr c_2, c_3]) rfl ls (lv_sub hl [0, 1, 2, 3, 4, 5] rfl) (by omega)
        · skip
          refine lv_aload_n hx hb dX3_lastDayBefore_26 rfl (lv_at hl 2 rfl) ?_
          refine va_get (D := G) (ci := 3) (v := .ref hT3) (C := RX3) (T := TX3) (N := 7) hx hb hts (fun _ h => List.mem_cons_of_mem _ (List.mem_append_right _ h)) hown hK.1 hP 0 rfl rfl 3 (by decide) (hts (.fieldLink RX3 21 "TailorHouse$Tellings" "days" "[I") (List.mem_of_getElem? (i := 2) rfl)) (fun _ h9 => h9) rfl dX3_lastDayBefore_27 ?_
          refine lv_iload hx hb dX3_lastDayBefore_30 (lv_at hl 0 rfl) ?_
          refine kx_ialdN hx hb hK.1 hP 4 rfl rfl i (by omega) (by decide) dX3_lastDayBefore_32 ?_
          refine lv_iload_n hx hb dX3_lastDayBefore_33 rfl (lv_at hl 5 rfl) ?_
          refine lv_icmp_ge (tgt := 58) hx hb dX3_lastDayBefore_34 (by decide) (fun c_4 => ?_) (fun c_4 => ?_)
          · skip
            refine lv_iinc (v := nI (i + 1)) (lv' := [(5, .int (nI (i + 1))), (4, .int (kLast bd ms dy body measure limit i)), (0, .ref hT), (1, .int body), (2, .int measure), (3, .int limit)]) hx hb dX3_lastDayBefore_58 hl (k := 0) rfl (nI_1 i) (by decide) rfl (fun ls hl => ?_)
            refine lv_goto (tgt := 6) hx hb dX3_lastDayBefore_61 (by decide) ?_
            exact ih_1 (i + 1) (kLast bd ms dy body measure limit i) (i + 1) (by omega) (by simp [kLast, c_2, Nat.not_le.mpr c_2, c_3, c_4, Int32.not_lt.mpr c_4]) rfl ls (lv_sub hl [0, 1, 2, 3, 4, 5] rfl) (by omega)
          · skip
            refine lv_aload_n hx hb dX3_lastDayBefore_37 rfl (lv_at hl 2 rfl) ?_
            refine va_get (D := G) (ci := 3) (v := .ref hT3) (C := RX3) (T := TX3) (N := 7) hx hb hts (fun _ h => List.mem_cons_of_mem _ (List.mem_append_right _ h)) hown hK.1 hP 0 rfl rfl 3 (by decide) (hts (.fieldLink RX3 21 "TailorHouse$Tellings" "days" "[I") (List.mem_of_getElem? (i := 2) rfl)) (fun _ h9 => h9) rfl dX3_lastDayBefore_38 ?_
            refine lv_iload hx hb dX3_lastDayBefore_41 (lv_at hl 0 rfl) ?_
            refine kx_ialdN hx hb hK.1 hP 4 rfl rfl i (by omega) (by decide) dX3_lastDayBefore_43 ?_
            refine lv_iload hx hb dX3_lastDayBefore_44 (lv_at hl 1 rfl) ?_
            refine lv_icmp_le (tgt := 58) hx hb dX3_lastDayBefore_46 (by decide) (fun c_5 => ?_) (fun c_5 => ?_)
            · skip
              refine lv_iinc (v := nI (i + 1)) (lv' := [(5, .int (nI (i + 1))), (4, .int (kLast bd ms dy body measure limit i)), (0, .ref hT), (1, .int body), (2, .int measure), (3, .int limit)]) hx hb dX3_lastDayBefore_58 hl (k := 0) rfl (nI_1 i) (by decide) rfl (fun ls hl => ?_)
              refine lv_goto (tgt := 6) hx hb dX3_lastDayBefore_61 (by decide) ?_
              exact ih_1 (i + 1) (kLast bd ms dy body measure limit i) (i + 1) (by omega) (by simp [kLast, c_2, Nat.not_le.mpr c_2, c_3, c_4, Int32.not_le.mp c_4, c_5, Int32.not_lt.mpr c_5]) rfl ls (lv_sub hl [0, 1, 2, 3, 4, 5] rfl) (by omega)
            · skip
              refine lv_aload_n hx hb dX3_lastDayBefore_49 rfl (lv_at hl 2 rfl) ?_
              refine va_get (D := G) (ci := 3) (v := .ref hT3) (C := RX3) (T := TX3) (N := 7) hx hb hts (fun _ h => List.mem_cons_of_mem _ (List.mem_append_right _ h)) hown hK.1 hP 0 rfl rfl 3 (by decide) (hts (.fieldLink RX3 21 "TailorHouse$Tellings" "days" "[I") (List.mem_of_getElem? (i := 2) rfl)) (fun _ h9 => h9) rfl dX3_lastDayBefore_50 ?_
              refine lv_iload hx hb dX3_lastDayBefore_53 (lv_at hl 0 rfl) ?_
              refine kx_ialdN hx hb hK.1 hP 4 rfl rfl i (by omega) (by decide) dX3_lastDayBefore_55 ?_
              refine lv_istore (lv' := [(4, .int (dy i)), (5, .int (nI i)), (0, .ref hT), (1, .int body), (2, .int measure), (3, .int limit)]) hx hb dX3_lastDayBefore_56 hl (by decide) rfl (fun ls hl => ?_)
              refine lv_iinc (v := nI (i + 1)) (lv' := [(5, .int (nI (i + 1))), (4, .int (dy i)), (0, .ref hT), (1, .int body), (2, .int measure), (3, .int limit)]) hx hb dX3_lastDayBefore_58 hl (k := 1) rfl (nI_1 i) (by decide) rfl (fun ls hl => ?_)
              refine lv_goto (tgt := 6) hx hb dX3_lastDayBefore_61 (by decide) ?_
              exact ih_1 (i + 1) (dy i) (i + 1) (by omega) (by simp [kLast, c_2, Nat.not_le.mpr c_2, c_3, c_4, Int32.not_le.mp c_4, c_5, Int32.not_le.mp c_5]) rfl ls (lv_sub hl [0, 1, 2, 3, 4, 5] rfl) (by omega)
  exact lab_6_1 ((told - 0) + 1) 0 (-1) 0 (by omega) (rfl) rfl ls (lv_sub hl [0, 1, 2, 3, 4, 5] rfl) (Nat.lt_succ_self _)
abbrev rm_X3_meanOn : Room := { frames := 1, cells := 0, slots := 0, locals := 23 }
set_option maxHeartbeats 4000000 in
set_option maxRecDepth 100000 in
theorem c_X3_meanOn (l : Launch) (G : va_G) (cI cZ : ClassId) (hT : Nat) (hT0 : Nat) (hT1 : Nat) (hT2 : Nat) (hT3 : Nat) (hT4 : Nat) (hT5 : Nat) (hd : Nat → Int32) (bd : Nat → Int32) (ms : Nat → Int32) (dy : Nat → Int32) (vl : Nat → Int32) (hbt : Nat → Int32) (told : Nat) (body : Int32) (measure : Int32) (day : Int32) (hTo : told ≤ 40) (hTi : ∀ i, i < told → vp_in (hd i) 4) (hm : vp_in measure 6) : Met l yX3_meanOn wsX3_meanOn rm_X3_meanOn (kx_Pr G cI cZ [(hT, .inr (3, [.ref hT0, .ref hT1, .ref hT2, .ref hT3, .ref hT4, .ref hT5, .int (nI told)])), (hT0, .inl (cI, 40, .inl hd)), (hT1, .inl (cI, 40, .inl bd)), (hT2, .inl (cI, 40, .inl ms)), (hT3, .inl (cI, 40, .inl dy)), (hT4, .inl (cI, 40, .inl vl)), (hT5, .inl (cI, 24, .inl hbt))] [.ref hT, .int body, .int measure, .int day]) (QcRead (kMean hd bd ms dy vl hbt told body measure day)) 0 0 (fun _ => False) := by
  refine Met.ofW (cc := cX3_meanOn) (maxL := 7) (ret := (some .int)) (by decide) rfl ?_
  intro p e s m args below meth c s₁ B hml hv
  obtain ⟨rfl, hP, hK⟩ := hv
  have hx := B.exec
  have hb := B.bytes
  have hr := B.returns
  have hts := atoms_spec (ws := wsX3_meanOn) B.pre
  have hown : s.vm.findClass RX3 = some m.cls := findClass_of_methodNamed B.named
  have hlocks := B.notSynchronized
  have hl := lv_entry ([.ref hT, .int body, .int measure, .int day]) (n := 7) (Nat.le_of_ble_eq_true rfl)
  rw [lg_entry_eq]
  generalize (lg_sl ([.ref hT, .int body, .int measure, .int day]) ++ List.replicate (7 - (lg_sl ([.ref hT, .int body, .int measure, .int day])).length) Slot.unset).toArray = ls at hl ⊢
  have hl : lv_has ls 7 [(0, .ref hT), (1, .int body), (2, .int measure), (3, .int day)] := hl
  refine lv_iconst (v := 0) hx hb dX3_meanOn_0 (by decide) ?_
  refine lv_istore (lv' := [(4, .int 0), (0, .ref hT), (1, .int body), (2, .int measure), (3, .int day)]) hx hb dX3_meanOn_1 hl (by decide) rfl (fun ls hl => ?_)
  refine lv_iconst (v := 0) hx hb dX3_meanOn_3 (by decide) ?_
  refine lv_istore (lv' := [(5, .int 0), (4, .int 0), (0, .ref hT), (1, .int body), (2, .int measure), (3, .int day)]) hx hb dX3_meanOn_4 hl (by decide) rfl (fun ls hl => ?_)
  refine lv_iconst (v := 0) hx hb dX3_meanOn_6 (by decide) ?_
  refine lv_istore (lv' := [(6, .int 0), (5, .int 0), (4, .int 0), (0, .ref hT), (1, .int body), (2, .int measure), (3, .int day)]) hx hb dX3_meanOn_7 hl (by decide) rfl (fun ls hl => ?_)
  have lab_9_1 : ∀ (nn_1 : Nat) (i : Nat) (z1_0 : Int32) (z1_1 : Nat) (z1_2 : Nat) (hi : i ≤ told) (ez1_0 : (kSum hd bd ms dy vl hbt body measure day i) = z1_0) (ez1_1 : (kCnt bd ms dy body measure day i) = z1_1) (ez1_2 : i = z1_2) (ls : Array Slot) (hl : lv_has ls 7 [(6, .int (nI z1_2)), (5, .int (nI z1_1)), (4, .int z1_0), (0, .ref hT), (1, .int body), (2, .int measure), (3, .int day)]), (told - i) < nn_1 → W p l e (headSpec wsX3_meanOn rm_X3_meanOn).room s m ([.ref hT, .int body, .int measure, .int day] : List Value).toArray below meth c s.heap [] 0 0 (MQ below (QcRead (kMean hd bd ms dy vl hbt told body measure day)) ([.ref hT, .int body, .int measure, .int day] : List Value).toArray s 0 0 (fun _ => False)) (F0 m 9 ls []) := by
    intro nn_1
    induction nn_1 with
    | zero => intro i z1_0 z1_1 z1_2 hi ez1_0 ez1_1 ez1_2 ls hl hn; exact absurd hn (Nat.not_lt_zero _)
    | succ nn_1 ih_1 =>
      intro i z1_0 z1_1 z1_2 hi ez1_0 ez1_1 ez1_2 ls hl hn_1
      subst ez1_0
      subst ez1_1
      subst ez1_2
      refine lv_iload hx hb dX3_meanOn_9 (lv_at hl 0 rfl) ?_
      refine lv_aload_n hx hb dX3_meanOn_11 rfl (lv_at hl 3 rfl) ?_
      refine va_get (D := G) (ci := 3) (v := .int (nI told)) (C := RX3) (T := TX3) (N := 7) hx hb hts (fun _ h => List.mem_cons_of_mem _ (List.mem_append_right _ h)) hown hK.1 hP 0 rfl rfl 6 (by decide) (hts (.fieldLink RX3 30 "TailorHouse$Tellings" "told" "I") (List.mem_of_getElem? (i := 1) rfl)) (fun _ h9 => h9) rfl dX3_meanOn_12 ?_
      refine kx_geN hx hb i told (by omega) (by omega) (tgt := 79) dX3_meanOn_15 (by decide) (fun c_2 => ?_) (fun c_2 => ?_)
      · skip
        have hE : told = i := by omega
        subst hE
        refine lv_iload hx hb dX3_meanOn_79 (lv_at hl 2 rfl) ?_
        refine lv_iload hx hb dX3_meanOn_81 (lv_at hl 1 rfl) ?_
        refine kx_ri (va_runSN (As := [.int (kSum hd bd ms dy vl hbt body measure day told), .int (nI (kCnt bd ms dy body measure day told))]) (rest := []) ⟨hx, hb, hml, hown, hts⟩ (c_X5_divide l (kSum hd bd ms dy vl hbt body measure day told) (nI (kCnt bd ms dy body measure day told))) ⟨va_cnB 2 hts gX3_meanOn_X5_divide_n45 rfl rfl rfl (hK.2 _ (List.mem_of_getElem? (i := 17) rfl)) (hts (.initialized RX5) (List.mem_of_getElem? (i := 14) rfl)) (by decide +kernel) ⟨(Nat.le_of_ble_eq_true rfl), (Nat.le_of_ble_eq_true rfl)⟩, (hts (.static yX5_divide) (List.mem_of_getElem? (i := 13) rfl)), trivial⟩ kx_preS rfl rfl hl.1 rfl (lv_room (Nat.le_of_ble_eq_true rfl)) dX3_meanOn_83 ⟨Nat.zero_le _, Nat.zero_le _⟩) ?_
        exact kx_iret hx hb hr (v := (kdiv (kSum hd bd ms dy vl hbt body measure day told) (nI (kCnt bd ms dy body measure day told)))) (rfl) dX3_meanOn_86 hlocks
      · skip
        refine lv_aload_n hx hb dX3_meanOn_18 rfl (lv_at hl 3 rfl) ?_
        refine lv_iload hx hb dX3_meanOn_19 (lv_at hl 0 rfl) ?_
        refine lv_iload_n hx hb dX3_meanOn_21 rfl (lv_at hl 4 rfl) ?_
        refine lv_iload_n hx hb dX3_meanOn_22 rfl (lv_at hl 5 rfl) ?_
        refine kx_ri (va_runV (As := [.int (nI i), .int body, .int measure]) (rest := []) ⟨hx, hb, hml, hown, hts⟩ (c_X3_isOf l G cI cZ hT hT0 hT1 hT2 hT3 hT4 hT5 hd bd ms dy vl hbt told i body measure (by first | assumption | omega)) (cwV 3 hts gX3_meanOn_X3_isOf rfl rfl rfl (by decide +kernel) ⟨(Nat.le_of_ble_eq_true rfl), (Nat.le_of_ble_eq_true rfl)⟩) (kx_preR hK (kx_sub 0 7 hP rfl) 0 rfl rfl) rfl rfl hl.1 rfl (lv_room (Nat.le_of_ble_eq_true rfl)) dX3_meanOn_23 ⟨Nat.zero_le _, Nat.zero_le _⟩) ?_
        refine kx_ifeqB hx hb (bd i = body ∧ ms i = measure) (tgt := 73) dX3_meanOn_26 (by decide) (fun c_3 => ?_) (fun c_3 => ?_)
        · skip
          refine lv_iinc (v := nI (i + 1)) (lv' := [(6, .int (nI (i + 1))), (5, .int (nI (kCnt bd ms dy body measure day i))), (4, .int (kSum hd bd ms dy vl hbt body measure day i)), (0, .ref hT), (1, .int body), (2, .int measure), (3, .int day)]) hx hb dX3_meanOn_73 hl (k := 0) rfl (nI_1 i) (by decide) rfl (fun ls hl => ?_)
          refine lv_goto (tgt := 9) hx hb dX3_meanOn_76 (by decide) ?_
          exact ih_1 (i + 1) (kSum hd bd ms dy vl hbt body measure day i) (kCnt bd ms dy body measure day i) (i + 1) (by omega) (by simp [kSum, kCnt, c_2, Nat.not_le.mpr c_2, c_3]) (by simp [kSum, kCnt, c_2, Nat.not_le.mpr c_2, c_3]) rfl ls (lv_sub hl [0, 1, 2, 3, 4, 5, 6] rfl) (by omega)
        · skip
          refine lv_aload_n hx hb dX3_meanOn_29 rfl (lv_at hl 3 rfl) ?_
          refine va_get (D := G) (ci := 3) (v := .ref hT3) (C := RX3) (T := TX3) (N := 7) hx hb hts (fun _ h => List.mem_cons_of_mem _ (List.mem_append_right _ h)) hown hK.1 hP 0 rfl rfl 3 (by decide) (hts (.fieldLink RX3 21 "TailorHouse$Tellings" "days" "[I") (List.mem_of_getElem? (i := 2) rfl)) (fun _ h9 => h9) rfl dX3_meanOn_30 ?_
          refine lv_iload hx hb dX3_meanOn_33 (lv_at hl 0 rfl) ?_
          refine kx_ialdN hx hb hK.1 hP 4 rfl rfl i (by omega) (by decide) dX3_meanOn_35 ?_
          refine lv_iload_n hx hb dX3_meanOn_36 rfl (lv_at hl 6 rfl) ?_
          refine lv_icmp_ne (tgt := 73) hx hb dX3_meanOn_37 (by decide) (fun c_4 => ?_) (fun c_4 => ?_)
          · skip
            refine lv_iinc (v := nI (i + 1)) (lv' := [(6, .int (nI (i + 1))), (5, .int (nI (kCnt bd ms dy body measure day i))), (4, .int (kSum hd bd ms dy vl hbt body measure day i)), (0, .ref hT), (1, .int body), (2, .int measure), (3, .int day)]) hx hb dX3_meanOn_73 hl (k := 0) rfl (nI_1 i) (by decide) rfl (fun ls hl => ?_)
            refine lv_goto (tgt := 9) hx hb dX3_meanOn_76 (by decide) ?_
            exact ih_1 (i + 1) (kSum hd bd ms dy vl hbt body measure day i) (kCnt bd ms dy body measure day i) (i + 1) (by omega) (by simp [kSum, kCnt, c_2, Nat.not_le.mpr c_2, c_3, c_4]) (by simp [kSum, kCnt, c_2, Nat.not_le.mpr c_2, c_3, c_4]) rfl ls (lv_sub hl [0, 1, 2, 3, 4, 5, 6] rfl) (by omega)
          · skip
            refine lv_iload hx hb dX3_meanOn_40 (lv_at hl 2 rfl) ?_
            refine lv_aload_n hx hb dX3_meanOn_42 rfl (lv_at hl 3 rfl) ?_
            refine va_get (D := G) (ci := 3) (v := .ref hT4) (C := RX3) (T := TX3) (N := 7) hx hb hts (fun _ h => List.mem_cons_of_mem _ (List.mem_append_right _ h)) hown hK.1 hP 0 rfl rfl 4 (by decide) (hts (.fieldLink RX3 24 "TailorHouse$Tellings" "values" "[I") (List.mem_of_getElem? (i := 3) rfl)) (fun _ h9 => h9) rfl dX3_meanOn_43 ?_
            refine lv_iload hx hb dX3_meanOn_46 (lv_at hl 0 rfl) ?_
            refine kx_ialdN hx hb hK.1 hP 5 rfl rfl i (by omega) (by decide) dX3_meanOn_48 ?_
            refine lv_aload_n hx hb dX3_meanOn_49 rfl (lv_at hl 3 rfl) ?_
            refine va_get (D := G) (ci := 3) (v := .ref hT5) (C := RX3) (T := TX3) (N := 7) hx hb hts (fun _ h => List.mem_cons_of_mem _ (List.mem_append_right _ h)) hown hK.1 hP 0 rfl rfl 5 (by decide) (hts (.fieldLink RX3 27 "TailorHouse$Tellings" "habits" "[I") (List.mem_of_getElem? (i := 4) rfl)) (fun _ h9 => h9) rfl dX3_meanOn_50 ?_
            refine lv_aload_n hx hb dX3_meanOn_53 rfl (lv_at hl 3 rfl) ?_
            refine va_get (D := G) (ci := 3) (v := .ref hT0) (C := RX3) (T := TX3) (N := 7) hx hb hts (fun _ h => List.mem_cons_of_mem _ (List.mem_append_right _ h)) hown hK.1 hP 0 rfl rfl 0 (by decide) (hts (.fieldLink RX3 9 "TailorHouse$Tellings" "hands" "[I") (List.mem_of_getElem? (i := 5) rfl)) (fun _ h9 => h9) rfl dX3_meanOn_54 ?_
            refine lv_iload hx hb dX3_meanOn_57 (lv_at hl 0 rfl) ?_
            refine kx_ialdN hx hb hK.1 hP 1 rfl rfl i (by omega) (by decide) dX3_meanOn_59 ?_
            refine lv_bipush (v := 6) hx hb dX3_meanOn_60 (by decide) ?_
            refine lv_imul hx hb dX3_meanOn_62 ?_
            refine lv_iload_n hx hb dX3_meanOn_63 rfl (lv_at hl 5 rfl) ?_
            refine lv_iadd hx hb dX3_meanOn_64 ?_
            refine va_iald hx hb hK.1 hP 6 0 rfl rfl (kx_hab (hTi i (by omega)) hm) dX3_meanOn_65 ?_
            refine lv_isub hx hb dX3_meanOn_66 ?_
            refine lv_iadd hx hb dX3_meanOn_67 ?_
            refine lv_istore (lv' := [(4, .int ((kSum hd bd ms dy vl hbt body measure day i) + ((vl i) - (hbt (((hd i) * 6) + measure).toNatClampNeg)))), (6, .int (nI i)), (5, .int (nI (kCnt bd ms dy body measure day i))), (0, .ref hT), (1, .int body), (2, .int measure), (3, .int day)]) hx hb dX3_meanOn_68 hl (by decide) rfl (fun ls hl => ?_)
            refine lv_iinc (v := nI (kCnt bd ms dy body measure day i + 1)) (lv' := [(5, .int (nI (kCnt bd ms dy body measure day i + 1))), (4, .int ((kSum hd bd ms dy vl hbt body measure day i) + ((vl i) - (hbt (((hd i) * 6) + measure).toNatClampNeg)))), (6, .int (nI i)), (0, .ref hT), (1, .int body), (2, .int measure), (3, .int day)]) hx hb dX3_meanOn_70 hl (k := 2) rfl (nI_1 (kCnt bd ms dy body measure day i)) (by decide) rfl (fun ls hl => ?_)
            refine lv_iinc (v := nI (i + 1)) (lv' := [(6, .int (nI (i + 1))), (5, .int (nI (kCnt bd ms dy body measure day i + 1))), (4, .int ((kSum hd bd ms dy vl hbt body measure day i) + ((vl i) - (hbt (((hd i) * 6) + measure).toNatClampNeg)))), (0, .ref hT), (1, .int body), (2, .int measure), (3, .int day)]) hx hb dX3_meanOn_73 hl (k := 2) rfl (nI_1 i) (by decide) rfl (fun ls hl => ?_)
            refine lv_goto (tgt := 9) hx hb dX3_meanOn_76 (by decide) ?_
            exact ih_1 (i + 1) ((kSum hd bd ms dy vl hbt body measure day i) + ((vl i) - (hbt (((hd i) * 6) + measure).toNatClampNeg))) (kCnt bd ms dy body measure day i + 1) (i + 1) (by omega) (by simp [kSum, kCnt, c_2, Nat.not_le.mpr c_2, c_3, c_4]) (by simp [kSum, kCnt, c_2, Nat.not_le.mpr c_2, c_3, c_4]) rfl ls (lv_sub hl [0, 1, 2, 3, 4, 5, 6] rfl) (by omega)
  exact lab_9_1 ((told - 0) + 1) 0 0 0 0 (by omega) (rfl) (rfl) rfl ls (lv_sub hl [0, 1, 2, 3, 4, 5, 6] rfl) (Nat.lt_succ_self _)
abbrev rm_X3_latest : Room := { frames := 2, cells := 0, slots := 0, locals := 49 }
set_option maxHeartbeats 4000000 in
set_option maxRecDepth 100000 in
theorem c_X3_latest (l : Launch) (G : va_G) (cI cZ : ClassId) (hT : Nat) (hT0 : Nat) (hT1 : Nat) (hT2 : Nat) (hT3 : Nat) (hT4 : Nat) (hT5 : Nat) (hd : Nat → Int32) (bd : Nat → Int32) (ms : Nat → Int32) (dy : Nat → Int32) (vl : Nat → Int32) (hbt : Nat → Int32) (told : Nat) (body : Int32) (measure : Int32) (hTo : told ≤ 40) (hTi : ∀ i, i < told → vp_in (hd i) 4) (hm : vp_in measure 6) : Met l yX3_latest wsX3_latest rm_X3_latest (kx_Pr G cI cZ [(hT, .inr (3, [.ref hT0, .ref hT1, .ref hT2, .ref hT3, .ref hT4, .ref hT5, .int (nI told)])), (hT0, .inl (cI, 40, .inl hd)), (hT1, .inl (cI, 40, .inl bd)), (hT2, .inl (cI, 40, .inl ms)), (hT3, .inl (cI, 40, .inl dy)), (hT4, .inl (cI, 40, .inl vl)), (hT5, .inl (cI, 24, .inl hbt))] [.ref hT, .int body, .int measure]) (QcRead (kLatest hd bd ms dy vl hbt told body measure)) 0 0 (fun _ => False) := by
  refine Met.ofW (cc := cX3_latest) (maxL := 3) (ret := (some .int)) (by decide) rfl ?_
  intro p e s m args below meth c s₁ B hml hv
  obtain ⟨rfl, hP, hK⟩ := hv
  have hx := B.exec
  have hb := B.bytes
  have hr := B.returns
  have hts := atoms_spec (ws := wsX3_latest) B.pre
  have hown : s.vm.findClass RX3 = some m.cls := findClass_of_methodNamed B.named
  have hlocks := B.notSynchronized
  have hl := lv_entry ([.ref hT, .int body, .int measure]) (n := 3) (Nat.le_of_ble_eq_true rfl)
  rw [lg_entry_eq]
  generalize (lg_sl ([.ref hT, .int body, .int measure]) ++ List.replicate (3 - (lg_sl ([.ref hT, .int body, .int measure])).length) Slot.unset).toArray = ls at hl ⊢
  have hl : lv_has ls 3 [(0, .ref hT), (1, .int body), (2, .int measure)] := hl
  refine lv_aload_n hx hb dX3_latest_0 rfl (lv_at hl 0 rfl) ?_
  refine lv_iload_n hx hb dX3_latest_1 rfl (lv_at hl 1 rfl) ?_
  refine lv_iload_n hx hb dX3_latest_2 rfl (lv_at hl 2 rfl) ?_
  refine lv_aload_n hx hb dX3_latest_3 rfl (lv_at hl 0 rfl) ?_
  refine lv_iload_n hx hb dX3_latest_4 rfl (lv_at hl 1 rfl) ?_
  refine lv_iload_n hx hb dX3_latest_5 rfl (lv_at hl 2 rfl) ?_
  refine lv_sipush (v := 10001) hx hb dX3_latest_6 (by decide) ?_
  refine kx_ri (va_runV (As := [.int body, .int measure, .int 10001]) (rest := [.int measure, .int body, .ref hT]) ⟨hx, hb, hml, hown, hts⟩ (c_X3_lastDayBefore l G cI cZ hT hT0 hT1 hT2 hT3 hT4 hT5 hd bd ms dy vl hbt told body measure 10001 (by first | assumption | omega)) (cwV 3 hts gX3_latest_X3_lastDayBefore rfl rfl rfl (by decide +kernel) ⟨(Nat.le_of_ble_eq_true rfl), (Nat.le_of_ble_eq_true rfl)⟩) (kx_preR hK (kx_sub 0 7 hP rfl) 0 rfl rfl) rfl rfl hl.1 rfl (lv_room (Nat.le_of_ble_eq_true rfl)) dX3_latest_9 ⟨Nat.zero_le _, Nat.zero_le _⟩) ?_
  refine kx_ri (va_runV (As := [.int body, .int measure, .int (kLast bd ms dy body measure 10001 told)]) (rest := []) ⟨hx, hb, hml, hown, hts⟩ (c_X3_meanOn l G cI cZ hT hT0 hT1 hT2 hT3 hT4 hT5 hd bd ms dy vl hbt told body measure (kLast bd ms dy body measure 10001 told) (by first | assumption | omega) (by first | assumption | omega) (by first | assumption | omega)) (cwV 3 hts gX3_latest_X3_meanOn rfl rfl rfl (by decide +kernel) ⟨(Nat.le_of_ble_eq_true rfl), (Nat.le_of_ble_eq_true rfl)⟩) (kx_preR hK (kx_sub 0 7 hP rfl) 0 rfl rfl) rfl rfl hl.1 rfl (lv_room (Nat.le_of_ble_eq_true rfl)) dX3_latest_12 ⟨Nat.zero_le _, Nat.zero_le _⟩) ?_
  exact kx_iret hx hb hr (v := (kMean hd bd ms dy vl hbt told body measure (kLast bd ms dy body measure 10001 told))) (rfl) dX3_latest_15 hlocks
abbrev rm_X3_growth : Room := { frames := 2, cells := 0, slots := 0, locals := 49 }
set_option maxHeartbeats 4000000 in
set_option maxRecDepth 100000 in
theorem c_X3_growth (l : Launch) (G : va_G) (cI cZ : ClassId) (hT : Nat) (hT0 : Nat) (hT1 : Nat) (hT2 : Nat) (hT3 : Nat) (hT4 : Nat) (hT5 : Nat) (hd : Nat → Int32) (bd : Nat → Int32) (ms : Nat → Int32) (dy : Nat → Int32) (vl : Nat → Int32) (hbt : Nat → Int32) (told : Nat) (body : Int32) (measure : Int32) (hTo : told ≤ 40) (hTi : ∀ i, i < told → vp_in (hd i) 4) (hm : vp_in measure 6) : Met l yX3_growth wsX3_growth rm_X3_growth (kx_Pr G cI cZ [(hT, .inr (3, [.ref hT0, .ref hT1, .ref hT2, .ref hT3, .ref hT4, .ref hT5, .int (nI told)])), (hT0, .inl (cI, 40, .inl hd)), (hT1, .inl (cI, 40, .inl bd)), (hT2, .inl (cI, 40, .inl ms)), (hT3, .inl (cI, 40, .inl dy)), (hT4, .inl (cI, 40, .inl vl)), (hT5, .inl (cI, 24, .inl hbt))] [.ref hT, .int body, .int measure]) (QcRead (kGrow hd bd ms dy vl hbt told body measure)) 0 0 (fun _ => False) := by
  refine Met.ofW (cc := cX3_growth) (maxL := 5) (ret := (some .int)) (by decide) rfl ?_
  intro p e s m args below meth c s₁ B hml hv
  obtain ⟨rfl, hP, hK⟩ := hv
  have hx := B.exec
  have hb := B.bytes
  have hr := B.returns
  have hts := atoms_spec (ws := wsX3_growth) B.pre
  have hown : s.vm.findClass RX3 = some m.cls := findClass_of_methodNamed B.named
  have hlocks := B.notSynchronized
  have hl := lv_entry ([.ref hT, .int body, .int measure]) (n := 5) (Nat.le_of_ble_eq_true rfl)
  rw [lg_entry_eq]
  generalize (lg_sl ([.ref hT, .int body, .int measure]) ++ List.replicate (5 - (lg_sl ([.ref hT, .int body, .int measure])).length) Slot.unset).toArray = ls at hl ⊢
  have hl : lv_has ls 5 [(0, .ref hT), (1, .int body), (2, .int measure)] := hl
  refine lv_aload_n hx hb dX3_growth_0 rfl (lv_at hl 0 rfl) ?_
  refine lv_iload_n hx hb dX3_growth_1 rfl (lv_at hl 1 rfl) ?_
  refine lv_iload_n hx hb dX3_growth_2 rfl (lv_at hl 2 rfl) ?_
  refine lv_sipush (v := 10001) hx hb dX3_growth_3 (by decide) ?_
  refine kx_ri (va_runV (As := [.int body, .int measure, .int 10001]) (rest := []) ⟨hx, hb, hml, hown, hts⟩ (c_X3_lastDayBefore l G cI cZ hT hT0 hT1 hT2 hT3 hT4 hT5 hd bd ms dy vl hbt told body measure 10001 (by first | assumption | omega)) (cwV 3 hts gX3_growth_X3_lastDayBefore rfl rfl rfl (by decide +kernel) ⟨(Nat.le_of_ble_eq_true rfl), (Nat.le_of_ble_eq_true rfl)⟩) (kx_preR hK (kx_sub 0 7 hP rfl) 0 rfl rfl) rfl rfl hl.1 rfl (lv_room (Nat.le_of_ble_eq_true rfl)) dX3_growth_6 ⟨Nat.zero_le _, Nat.zero_le _⟩) ?_
  refine lv_istore_n (lv' := [(3, .int (kLast bd ms dy body measure 10001 told)), (0, .ref hT), (1, .int body), (2, .int measure)]) hx hb dX3_growth_9 rfl hl (by decide) rfl (fun ls hl => ?_)
  refine lv_aload_n hx hb dX3_growth_10 rfl (lv_at hl 1 rfl) ?_
  refine lv_iload_n hx hb dX3_growth_11 rfl (lv_at hl 2 rfl) ?_
  refine lv_iload_n hx hb dX3_growth_12 rfl (lv_at hl 3 rfl) ?_
  refine lv_iload_n hx hb dX3_growth_13 rfl (lv_at hl 0 rfl) ?_
  refine kx_ri (va_runV (As := [.int body, .int measure, .int (kLast bd ms dy body measure 10001 told)]) (rest := []) ⟨hx, hb, hml, hown, hts⟩ (c_X3_lastDayBefore l G cI cZ hT hT0 hT1 hT2 hT3 hT4 hT5 hd bd ms dy vl hbt told body measure (kLast bd ms dy body measure 10001 told) (by first | assumption | omega)) (cwV 3 hts gX3_growth_X3_lastDayBefore rfl rfl rfl (by decide +kernel) ⟨(Nat.le_of_ble_eq_true rfl), (Nat.le_of_ble_eq_true rfl)⟩) (kx_preR hK (kx_sub 0 7 hP rfl) 0 rfl rfl) rfl rfl hl.1 rfl (lv_room (Nat.le_of_ble_eq_true rfl)) dX3_growth_14 ⟨Nat.zero_le _, Nat.zero_le _⟩) ?_
  refine lv_istore (lv' := [(4, .int (kLast bd ms dy body measure (kLast bd ms dy body measure 10001 told) told)), (3, .int (kLast bd ms dy body measure 10001 told)), (0, .ref hT), (1, .int body), (2, .int measure)]) hx hb dX3_growth_17 hl (by decide) rfl (fun ls hl => ?_)
  refine lv_iload hx hb dX3_growth_19 (lv_at hl 0 rfl) ?_
  refine lv_iconst (v := (-1)) hx hb dX3_growth_21 (by decide) ?_
  refine lv_icmp_ne (tgt := 27) hx hb dX3_growth_22 (by decide) (fun c_1 => ?_) (fun c_1 => ?_)
  · skip
    refine lv_aload_n hx hb dX3_growth_27 rfl (lv_at hl 2 rfl) ?_
    refine lv_iload_n hx hb dX3_growth_28 rfl (lv_at hl 3 rfl) ?_
    refine lv_iload_n hx hb dX3_growth_29 rfl (lv_at hl 4 rfl) ?_
    refine lv_iload_n hx hb dX3_growth_30 rfl (lv_at hl 1 rfl) ?_
    refine kx_ri (va_runV (As := [.int body, .int measure, .int (kLast bd ms dy body measure 10001 told)]) (rest := []) ⟨hx, hb, hml, hown, hts⟩ (c_X3_meanOn l G cI cZ hT hT0 hT1 hT2 hT3 hT4 hT5 hd bd ms dy vl hbt told body measure (kLast bd ms dy body measure 10001 told) (by first | assumption | omega) (by first | assumption | omega) (by first | assumption | omega)) (cwV 3 hts gX3_growth_X3_meanOn rfl rfl rfl (by decide +kernel) ⟨(Nat.le_of_ble_eq_true rfl), (Nat.le_of_ble_eq_true rfl)⟩) (kx_preR hK (kx_sub 0 7 hP rfl) 0 rfl rfl) rfl rfl hl.1 rfl (lv_room (Nat.le_of_ble_eq_true rfl)) dX3_growth_31 ⟨Nat.zero_le _, Nat.zero_le _⟩) ?_
    refine lv_aload_n hx hb dX3_growth_34 rfl (lv_at hl 2 rfl) ?_
    refine lv_iload_n hx hb dX3_growth_35 rfl (lv_at hl 3 rfl) ?_
    refine lv_iload_n hx hb dX3_growth_36 rfl (lv_at hl 4 rfl) ?_
    refine lv_iload hx hb dX3_growth_37 (lv_at hl 0 rfl) ?_
    refine kx_ri (va_runV (As := [.int body, .int measure, .int (kLast bd ms dy body measure (kLast bd ms dy body measure 10001 told) told)]) (rest := [.int (kMean hd bd ms dy vl hbt told body measure (kLast bd ms dy body measure 10001 told))]) ⟨hx, hb, hml, hown, hts⟩ (c_X3_meanOn l G cI cZ hT hT0 hT1 hT2 hT3 hT4 hT5 hd bd ms dy vl hbt told body measure (kLast bd ms dy body measure (kLast bd ms dy body measure 10001 told) told) (by first | assumption | omega) (by first | assumption | omega) (by first | assumption | omega)) (cwV 3 hts gX3_growth_X3_meanOn rfl rfl rfl (by decide +kernel) ⟨(Nat.le_of_ble_eq_true rfl), (Nat.le_of_ble_eq_true rfl)⟩) (kx_preR hK (kx_sub 0 7 hP rfl) 0 rfl rfl) rfl rfl hl.1 rfl (lv_room (Nat.le_of_ble_eq_true rfl)) dX3_growth_39 ⟨Nat.zero_le _, Nat.zero_le _⟩) ?_
    refine lv_isub hx hb dX3_growth_42 ?_
    exact kx_iret hx hb hr (v := ((kMean hd bd ms dy vl hbt told body measure (kLast bd ms dy body measure 10001 told)) - (kMean hd bd ms dy vl hbt told body measure (kLast bd ms dy body measure (kLast bd ms dy body measure 10001 told) told)))) (by simp [kGrow, c_1]) dX3_growth_43 hlocks
  · skip
    refine lv_iconst (v := 0) hx hb dX3_growth_25 (by decide) ?_
    exact kx_iret hx hb hr (v := 0) (by simp [kGrow, c_1]) dX3_growth_26 hlocks
abbrev rm_X3_meanDifference : Room := { frames := 1, cells := 0, slots := 0, locals := 22 }
set_option maxHeartbeats 4000000 in
set_option maxRecDepth 100000 in
theorem c_X3_meanDifference (l : Launch) (G : va_G) (cI cZ : ClassId) (hT : Nat) (hT0 : Nat) (hT1 : Nat) (hT2 : Nat) (hT3 : Nat) (hT4 : Nat) (hT5 : Nat) (hd : Nat → Int32) (bd : Nat → Int32) (ms : Nat → Int32) (dy : Nat → Int32) (vl : Nat → Int32) (hbt : Nat → Int32) (told : Nat) (measure : Int32) (sx : Int32) (tx : Int32) (hTo : told ≤ 40) : Met l yX3_meanDifference wsX3_meanDifference rm_X3_meanDifference (kx_Pr G cI cZ [(hT, .inr (3, [.ref hT0, .ref hT1, .ref hT2, .ref hT3, .ref hT4, .ref hT5, .int (nI told)])), (hT0, .inl (cI, 40, .inl hd)), (hT1, .inl (cI, 40, .inl bd)), (hT2, .inl (cI, 40, .inl ms)), (hT3, .inl (cI, 40, .inl dy)), (hT4, .inl (cI, 40, .inl vl)), (hT5, .inl (cI, 24, .inl hbt))] [.ref hT, .int measure, .int sx, .int tx]) (QcRead (kFound hd bd ms dy vl told measure sx tx)) 0 0 (fun _ => False) := by
  refine Met.ofW (cc := cX3_meanDifference) (maxL := 8) (ret := (some .int)) (by decide) rfl ?_
  intro p e s m args below meth c s₁ B hml hv
  obtain ⟨rfl, hP, hK⟩ := hv
  have hx := B.exec
  have hb := B.bytes
  have hr := B.returns
  have hts := atoms_spec (ws := wsX3_meanDifference) B.pre
  have hown : s.vm.findClass RX3 = some m.cls := findClass_of_methodNamed B.named
  have hlocks := B.notSynchronized
  have hl := lv_entry ([.ref hT, .int measure, .int sx, .int tx]) (n := 8) (Nat.le_of_ble_eq_true rfl)
  rw [lg_entry_eq]
  generalize (lg_sl ([.ref hT, .int measure, .int sx, .int tx]) ++ List.replicate (8 - (lg_sl ([.ref hT, .int measure, .int sx, .int tx])).length) Slot.unset).toArray = ls at hl ⊢
  have hl : lv_has ls 8 [(0, .ref hT), (1, .int measure), (2, .int sx), (3, .int tx)] := hl
  refine lv_iconst (v := 0) hx hb dX3_meanDifference_0 (by decide) ?_
  refine lv_istore (lv' := [(4, .int 0), (0, .ref hT), (1, .int measure), (2, .int sx), (3, .int tx)]) hx hb dX3_meanDifference_1 hl (by decide) rfl (fun ls hl => ?_)
  refine lv_iconst (v := 0) hx hb dX3_meanDifference_3 (by decide) ?_
  refine lv_istore (lv' := [(5, .int 0), (4, .int 0), (0, .ref hT), (1, .int measure), (2, .int sx), (3, .int tx)]) hx hb dX3_meanDifference_4 hl (by decide) rfl (fun ls hl => ?_)
  refine lv_iconst (v := 0) hx hb dX3_meanDifference_6 (by decide) ?_
  refine lv_istore (lv' := [(6, .int 0), (5, .int 0), (4, .int 0), (0, .ref hT), (1, .int measure), (2, .int sx), (3, .int tx)]) hx hb dX3_meanDifference_7 hl (by decide) rfl (fun ls hl => ?_)
  have lab_9_1 : ∀ (nn_1 : Nat) (i : Nat) (z1_0 : Int32) (z1_1 : Nat) (z1_2 : Nat) (hi : i ≤ told) (ez1_0 : (kFS hd bd ms dy vl told measure sx tx i) = z1_0) (ez1_1 : (kFN hd bd ms dy told measure sx tx i) = z1_1) (ez1_2 : i = z1_2) (ls : Array Slot) (hl : lv_has ls 8 [(6, .int (nI z1_2)), (5, .int (nI z1_1)), (4, .int z1_0), (0, .ref hT), (1, .int measure), (2, .int sx), (3, .int tx)]), (told - i) < nn_1 → W p l e (headSpec wsX3_meanDifference rm_X3_meanDifference).room s m ([.ref hT, .int measure, .int sx, .int tx] : List Value).toArray below meth c s.heap [] 0 0 (MQ below (QcRead (kFound hd bd ms dy vl told measure sx tx)) ([.ref hT, .int measure, .int sx, .int tx] : List Value).toArray s 0 0 (fun _ => False)) (F0 m 9 ls []) := by
    intro nn_1
    induction nn_1 with
    | zero => intro i z1_0 z1_1 z1_2 hi ez1_0 ez1_1 ez1_2 ls hl hn; exact absurd hn (Nat.not_lt_zero _)
    | succ nn_1 ih_1 =>
      intro i z1_0 z1_1 z1_2 hi ez1_0 ez1_1 ez1_2 ls hl hn_1
      subst ez1_0
      subst ez1_1
      subst ez1_2
      refine lv_iload hx hb dX3_meanDifference_9 (lv_at hl 0 rfl) ?_
      refine lv_aload_n hx hb dX3_meanDifference_11 rfl (lv_at hl 3 rfl) ?_
      refine va_get (D := G) (ci := 3) (v := .int (nI told)) (C := RX3) (T := TX3) (N := 7) hx hb hts (fun _ h => List.mem_cons_of_mem _ (List.mem_append_right _ h)) hown hK.1 hP 0 rfl rfl 6 (by decide) (hts (.fieldLink RX3 30 "TailorHouse$Tellings" "told" "I") (List.mem_of_getElem? (i := 1) rfl)) (fun _ h9 => h9) rfl dX3_meanDifference_12 ?_
      refine kx_geN hx hb i told (by omega) (by omega) (tgt := 112) dX3_meanDifference_15 (by decide) (fun c_2 => ?_) (fun c_2 => ?_)
      · skip
        have hE : told = i := by omega
        subst hE
        refine lv_iload hx hb dX3_meanDifference_112 (lv_at hl 1 rfl) ?_
        refine lv_if_ne (tgt := 123) hx hb dX3_meanDifference_114 (by decide) (fun c_3 => ?_) (fun c_3 => ?_)
        · skip
          refine lv_iload hx hb dX3_meanDifference_123 (lv_at hl 2 rfl) ?_
          refine lv_iload hx hb dX3_meanDifference_125 (lv_at hl 1 rfl) ?_
          refine kx_ri (va_runSN (As := [.int (kFS hd bd ms dy vl told measure sx tx told), .int (nI (kFN hd bd ms dy told measure sx tx told))]) (rest := []) ⟨hx, hb, hml, hown, hts⟩ (c_X5_divide l (kFS hd bd ms dy vl told measure sx tx told) (nI (kFN hd bd ms dy told measure sx tx told))) ⟨va_cnB 2 hts gX3_meanDifference_X5_divide_n45 rfl rfl rfl (hK.2 _ (List.mem_of_getElem? (i := 17) rfl)) (hts (.initialized RX5) (List.mem_of_getElem? (i := 13) rfl)) (by decide +kernel) ⟨(Nat.le_of_ble_eq_true rfl), (Nat.le_of_ble_eq_true rfl)⟩, (hts (.static yX5_divide) (List.mem_of_getElem? (i := 12) rfl)), trivial⟩ kx_preS rfl rfl hl.1 rfl (lv_room (Nat.le_of_ble_eq_true rfl)) dX3_meanDifference_127 ⟨Nat.zero_le _, Nat.zero_le _⟩) ?_
          exact kx_iret hx hb hr (v := (kdiv (kFS hd bd ms dy vl told measure sx tx told) (nI (kFN hd bd ms dy told measure sx tx told)))) (by simp [kFound, c_2, Nat.not_lt.mpr c_2, c_3]) dX3_meanDifference_130 hlocks
        · skip
          refine lv_sipush (v := (-1001)) hx hb dX3_meanDifference_117 (by decide) ?_
          refine lv_goto (tgt := 130) hx hb dX3_meanDifference_120 (by decide) ?_
          exact kx_iret hx hb hr (v := (-1001)) (by simp [kFound, c_2, Nat.not_lt.mpr c_2, c_3]) dX3_meanDifference_130 hlocks
      · skip
        refine lv_aload_n hx hb dX3_meanDifference_18 rfl (lv_at hl 3 rfl) ?_
        refine va_get (D := G) (ci := 3) (v := .ref hT0) (C := RX3) (T := TX3) (N := 7) hx hb hts (fun _ h => List.mem_cons_of_mem _ (List.mem_append_right _ h)) hown hK.1 hP 0 rfl rfl 0 (by decide) (hts (.fieldLink RX3 9 "TailorHouse$Tellings" "hands" "[I") (List.mem_of_getElem? (i := 2) rfl)) (fun _ h9 => h9) rfl dX3_meanDifference_19 ?_
        refine lv_iload hx hb dX3_meanDifference_22 (lv_at hl 0 rfl) ?_
        refine kx_ialdN hx hb hK.1 hP 1 rfl rfl i (by omega) (by decide) dX3_meanDifference_24 ?_
        refine lv_iload_n hx hb dX3_meanDifference_25 rfl (lv_at hl 5 rfl) ?_
        refine lv_icmp_ne (tgt := 106) hx hb dX3_meanDifference_26 (by decide) (fun c_4 => ?_) (fun c_4 => ?_)
        · skip
          refine lv_iinc (v := nI (i + 1)) (lv' := [(6, .int (nI (i + 1))), (5, .int (nI (kFN hd bd ms dy told measure sx tx i))), (4, .int (kFS hd bd ms dy vl told measure sx tx i)), (0, .ref hT), (1, .int measure), (2, .int sx), (3, .int tx)]) hx hb dX3_meanDifference_106 hl (k := 0) rfl (nI_1 i) (by decide) rfl (fun ls hl => ?_)
          refine lv_goto (tgt := 9) hx hb dX3_meanDifference_109 (by decide) ?_
          exact ih_1 (i + 1) (kFS hd bd ms dy vl told measure sx tx i) (kFN hd bd ms dy told measure sx tx i) (i + 1) (by omega) (by simp [kFS, kFN, c_2, Nat.not_le.mpr c_2, c_4]) (by simp [kFS, kFN, c_2, Nat.not_le.mpr c_2, c_4]) rfl ls (lv_sub hl [0, 1, 2, 3, 4, 5, 6] rfl) (by omega)
        · skip
          refine lv_aload_n hx hb dX3_meanDifference_29 rfl (lv_at hl 3 rfl) ?_
          refine va_get (D := G) (ci := 3) (v := .ref hT2) (C := RX3) (T := TX3) (N := 7) hx hb hts (fun _ h => List.mem_cons_of_mem _ (List.mem_append_right _ h)) hown hK.1 hP 0 rfl rfl 2 (by decide) (hts (.fieldLink RX3 18 "TailorHouse$Tellings" "measures" "[I") (List.mem_of_getElem? (i := 3) rfl)) (fun _ h9 => h9) rfl dX3_meanDifference_30 ?_
          refine lv_iload hx hb dX3_meanDifference_33 (lv_at hl 0 rfl) ?_
          refine kx_ialdN hx hb hK.1 hP 3 rfl rfl i (by omega) (by decide) dX3_meanDifference_35 ?_
          refine lv_iload_n hx hb dX3_meanDifference_36 rfl (lv_at hl 4 rfl) ?_
          refine lv_icmp_eq (tgt := 43) hx hb dX3_meanDifference_37 (by decide) (fun c_5 => ?_) (fun c_5 => ?_)
          · skip
            refine lv_iconst (v := 0) hx hb dX3_meanDifference_43 (by decide) ?_
            refine lv_istore (lv' := [(7, .int 0), (6, .int (nI i)), (5, .int (nI (kFN hd bd ms dy told measure sx tx i))), (4, .int (kFS hd bd ms dy vl told measure sx tx i)), (0, .ref hT), (1, .int measure), (2, .int sx), (3, .int tx)]) hx hb dX3_meanDifference_44 hl (by decide) rfl (fun ls hl => ?_)
            have lab_46_6 : ∀ (nn_6 : Nat) (j : Nat) (z6_0 : Int32) (z6_1 : Nat) (z6_2 : Nat) (hj : j ≤ told) (ez6_0 : (kFs hd bd ms dy vl tx i j (kFS hd bd ms dy vl told measure sx tx i)) = z6_0) (ez6_1 : (kFn hd bd ms dy tx i j (kFN hd bd ms dy told measure sx tx i)) = z6_1) (ez6_2 : j = z6_2) (ls : Array Slot) (hl : lv_has ls 8 [(7, .int (nI z6_2)), (6, .int (nI i)), (5, .int (nI z6_1)), (4, .int z6_0), (0, .ref hT), (1, .int measure), (2, .int sx), (3, .int tx)]), (told - j) < nn_6 → W p l e (headSpec wsX3_meanDifference rm_X3_meanDifference).room s m ([.ref hT, .int measure, .int sx, .int tx] : List Value).toArray below meth c s.heap [] 0 0 (MQ below (QcRead (kFound hd bd ms dy vl told measure sx tx)) ([.ref hT, .int measure, .int sx, .int tx] : List Value).toArray s 0 0 (fun _ => False)) (F0 m 46 ls []) := by
              intro nn_6
              induction nn_6 with
              | zero => intro j z6_0 z6_1 z6_2 hj ez6_0 ez6_1 ez6_2 ls hl hn; exact absurd hn (Nat.not_lt_zero _)
              | succ nn_6 ih_6 =>
                intro j z6_0 z6_1 z6_2 hj ez6_0 ez6_1 ez6_2 ls hl hn_6
                subst ez6_0
                subst ez6_1
                subst ez6_2
                refine lv_iload hx hb dX3_meanDifference_46 (lv_at hl 0 rfl) ?_
                refine lv_aload_n hx hb dX3_meanDifference_48 rfl (lv_at hl 4 rfl) ?_
                refine va_get (D := G) (ci := 3) (v := .int (nI told)) (C := RX3) (T := TX3) (N := 7) hx hb hts (fun _ h => List.mem_cons_of_mem _ (List.mem_append_right _ h)) hown hK.1 hP 0 rfl rfl 6 (by decide) (hts (.fieldLink RX3 30 "TailorHouse$Tellings" "told" "I") (List.mem_of_getElem? (i := 1) rfl)) (fun _ h9 => h9) rfl dX3_meanDifference_49 ?_
                refine kx_geN hx hb j told (by omega) (by omega) (tgt := 106) dX3_meanDifference_52 (by decide) (fun c_7 => ?_) (fun c_7 => ?_)
                · skip
                  have hE : told = j := by omega
                  subst hE
                  refine lv_iinc (v := nI (i + 1)) (lv' := [(6, .int (nI (i + 1))), (7, .int (nI told)), (5, .int (nI (kFn hd bd ms dy tx i told (kFN hd bd ms dy told measure sx tx i)))), (4, .int (kFs hd bd ms dy vl tx i told (kFS hd bd ms dy vl told measure sx tx i))), (0, .ref hT), (1, .int measure), (2, .int sx), (3, .int tx)]) hx hb dX3_meanDifference_106 hl (k := 1) rfl (nI_1 i) (by decide) rfl (fun ls hl => ?_)
                  refine lv_goto (tgt := 9) hx hb dX3_meanDifference_109 (by decide) ?_
                  exact ih_1 (i + 1) (kFs hd bd ms dy vl tx i told (kFS hd bd ms dy vl told measure sx tx i)) (kFn hd bd ms dy tx i told (kFN hd bd ms dy told measure sx tx i)) (i + 1) (by omega) (by simp [kFS, kFN, c_2, Nat.not_le.mpr c_2, c_4, c_5, c_7, Nat.not_lt.mpr c_7]) (by simp [kFS, kFN, c_2, Nat.not_le.mpr c_2, c_4, c_5, c_7, Nat.not_lt.mpr c_7]) rfl ls (lv_sub hl [0, 2, 3, 4, 5, 6, 7] rfl) (by omega)
                · skip
                  refine lv_aload_n hx hb dX3_meanDifference_55 rfl (lv_at hl 4 rfl) ?_
                  refine va_get (D := G) (ci := 3) (v := .ref hT0) (C := RX3) (T := TX3) (N := 7) hx hb hts (fun _ h => List.mem_cons_of_mem _ (List.mem_append_right _ h)) hown hK.1 hP 0 rfl rfl 0 (by decide) (hts (.fieldLink RX3 9 "TailorHouse$Tellings" "hands" "[I") (List.mem_of_getElem? (i := 2) rfl)) (fun _ h9 => h9) rfl dX3_meanDifference_56 ?_
                  refine lv_iload hx hb dX3_meanDifference_59 (lv_at hl 0 rfl) ?_
                  refine kx_ialdN hx hb hK.1 hP 1 rfl rfl j (by omega) (by decide) dX3_meanDifference_61 ?_
                  refine lv_iload_n hx hb dX3_meanDifference_62 rfl (lv_at hl 7 rfl) ?_
                  refine lv_icmp_ne (tgt := 100) hx hb dX3_meanDifference_63 (by decide) (fun c_8 => ?_) (fun c_8 => ?_)
                  · skip
                    refine lv_iinc (v := nI (j + 1)) (lv' := [(7, .int (nI (j + 1))), (6, .int (nI i)), (5, .int (nI (kFn hd bd ms dy tx i j (kFN hd bd ms dy told measure sx tx i)))), (4, .int (kFs hd bd ms dy vl tx i j (kFS hd bd ms dy vl told measure sx tx i))), (0, .ref hT), (1, .int measure), (2, .int sx), (3, .int tx)]) hx hb dX3_meanDifference_100 hl (k := 0) rfl (nI_1 j) (by decide) rfl (fun ls hl => ?_)
                    refine lv_goto (tgt := 46) hx hb dX3_meanDifference_103 (by decide) ?_
                    exact ih_6 (j + 1) (kFs hd bd ms dy vl tx i j (kFS hd bd ms dy vl told measure sx tx i)) (kFn hd bd ms dy tx i j (kFN hd bd ms dy told measure sx tx i)) (j + 1) (by omega) (by simp [kFs, kFn, c_7, Nat.not_le.mpr c_7, c_8]) (by simp [kFs, kFn, c_7, Nat.not_le.mpr c_7, c_8]) rfl ls (lv_sub hl [0, 1, 2, 3, 4, 5, 6, 7] rfl) (by omega)
                  · skip
                    refine lv_aload_n hx hb dX3_meanDifference_66 rfl (lv_at hl 4 rfl) ?_
                    refine lv_iload hx hb dX3_meanDifference_67 (lv_at hl 1 rfl) ?_
                    refine lv_iload hx hb dX3_meanDifference_69 (lv_at hl 0 rfl) ?_
                    refine kx_ri (va_runV (As := [.int (nI i), .int (nI j)]) (rest := []) ⟨hx, hb, hml, hown, hts⟩ (c_X3_isLikeTelling l G cI cZ hT hT0 hT1 hT2 hT3 hT4 hT5 hd bd ms dy vl hbt told i j (by first | assumption | omega) (by first | assumption | omega)) (cwV 2 hts gX3_meanDifference_X3_isLikeTelling rfl rfl rfl (by decide +kernel) ⟨(Nat.le_of_ble_eq_true rfl), (Nat.le_of_ble_eq_true rfl)⟩) (kx_preR hK (kx_sub 0 7 hP rfl) 0 rfl rfl) rfl rfl hl.1 rfl (lv_room (Nat.le_of_ble_eq_true rfl)) dX3_meanDifference_71 ⟨Nat.zero_le _, Nat.zero_le _⟩) ?_
                    refine kx_ifeqB hx hb (ms i = ms j ∧ bd i = bd j ∧ dy i = dy j) (tgt := 100) dX3_meanDifference_74 (by decide) (fun c_9 => ?_) (fun c_9 => ?_)
                    · skip
                      refine lv_iinc (v := nI (j + 1)) (lv' := [(7, .int (nI (j + 1))), (6, .int (nI i)), (5, .int (nI (kFn hd bd ms dy tx i j (kFN hd bd ms dy told measure sx tx i)))), (4, .int (kFs hd bd ms dy vl tx i j (kFS hd bd ms dy vl told measure sx tx i))), (0, .ref hT), (1, .int measure), (2, .int sx), (3, .int tx)]) hx hb dX3_meanDifference_100 hl (k := 0) rfl (nI_1 j) (by decide) rfl (fun ls hl => ?_)
                      refine lv_goto (tgt := 46) hx hb dX3_meanDifference_103 (by decide) ?_
                      exact ih_6 (j + 1) (kFs hd bd ms dy vl tx i j (kFS hd bd ms dy vl told measure sx tx i)) (kFn hd bd ms dy tx i j (kFN hd bd ms dy told measure sx tx i)) (j + 1) (by omega) (by simp [kFs, kFn, c_7, Nat.not_le.mpr c_7, c_8, c_9]) (by simp [kFs, kFn, c_7, Nat.not_le.mpr c_7, c_8, c_9]) rfl ls (lv_sub hl [0, 1, 2, 3, 4, 5, 6, 7] rfl) (by omega)
                    · skip
                      refine lv_iload hx hb dX3_meanDifference_77 (lv_at hl 3 rfl) ?_
                      refine lv_aload_n hx hb dX3_meanDifference_79 rfl (lv_at hl 4 rfl) ?_
                      refine va_get (D := G) (ci := 3) (v := .ref hT4) (C := RX3) (T := TX3) (N := 7) hx hb hts (fun _ h => List.mem_cons_of_mem _ (List.mem_append_right _ h)) hown hK.1 hP 0 rfl rfl 4 (by decide) (hts (.fieldLink RX3 24 "TailorHouse$Tellings" "values" "[I") (List.mem_of_getElem? (i := 4) rfl)) (fun _ h9 => h9) rfl dX3_meanDifference_80 ?_
                      refine lv_iload hx hb dX3_meanDifference_83 (lv_at hl 1 rfl) ?_
                      refine kx_ialdN hx hb hK.1 hP 5 rfl rfl i (by omega) (by decide) dX3_meanDifference_85 ?_
                      refine lv_aload_n hx hb dX3_meanDifference_86 rfl (lv_at hl 4 rfl) ?_
                      refine va_get (D := G) (ci := 3) (v := .ref hT4) (C := RX3) (T := TX3) (N := 7) hx hb hts (fun _ h => List.mem_cons_of_mem _ (List.mem_append_right _ h)) hown hK.1 hP 0 rfl rfl 4 (by decide) (hts (.fieldLink RX3 24 "TailorHouse$Tellings" "values" "[I") (List.mem_of_getElem? (i := 4) rfl)) (fun _ h9 => h9) rfl dX3_meanDifference_87 ?_
                      refine lv_iload hx hb dX3_meanDifference_90 (lv_at hl 0 rfl) ?_
                      refine kx_ialdN hx hb hK.1 hP 5 rfl rfl j (by omega) (by decide) dX3_meanDifference_92 ?_
                      refine lv_isub hx hb dX3_meanDifference_93 ?_
                      refine lv_iadd hx hb dX3_meanDifference_94 ?_
                      refine lv_istore (lv' := [(4, .int ((kFs hd bd ms dy vl tx i j (kFS hd bd ms dy vl told measure sx tx i)) + ((vl i) - (vl j)))), (7, .int (nI j)), (6, .int (nI i)), (5, .int (nI (kFn hd bd ms dy tx i j (kFN hd bd ms dy told measure sx tx i)))), (0, .ref hT), (1, .int measure), (2, .int sx), (3, .int tx)]) hx hb dX3_meanDifference_95 hl (by decide) rfl (fun ls hl => ?_)
                      refine lv_iinc (v := nI (kFn hd bd ms dy tx i j (kFN hd bd ms dy told measure sx tx i) + 1)) (lv' := [(5, .int (nI (kFn hd bd ms dy tx i j (kFN hd bd ms dy told measure sx tx i) + 1))), (4, .int ((kFs hd bd ms dy vl tx i j (kFS hd bd ms dy vl told measure sx tx i)) + ((vl i) - (vl j)))), (7, .int (nI j)), (6, .int (nI i)), (0, .ref hT), (1, .int measure), (2, .int sx), (3, .int tx)]) hx hb dX3_meanDifference_97 hl (k := 3) rfl (nI_1 (kFn hd bd ms dy tx i j (kFN hd bd ms dy told measure sx tx i))) (by decide) rfl (fun ls hl => ?_)
                      refine lv_iinc (v := nI (j + 1)) (lv' := [(7, .int (nI (j + 1))), (5, .int (nI (kFn hd bd ms dy tx i j (kFN hd bd ms dy told measure sx tx i) + 1))), (4, .int ((kFs hd bd ms dy vl tx i j (kFS hd bd ms dy vl told measure sx tx i)) + ((vl i) - (vl j)))), (6, .int (nI i)), (0, .ref hT), (1, .int measure), (2, .int sx), (3, .int tx)]) hx hb dX3_meanDifference_100 hl (k := 2) rfl (nI_1 j) (by decide) rfl (fun ls hl => ?_)
                      refine lv_goto (tgt := 46) hx hb dX3_meanDifference_103 (by decide) ?_
                      exact ih_6 (j + 1) ((kFs hd bd ms dy vl tx i j (kFS hd bd ms dy vl told measure sx tx i)) + ((vl i) - (vl j))) (kFn hd bd ms dy tx i j (kFN hd bd ms dy told measure sx tx i) + 1) (j + 1) (by omega) (by simp [kFs, kFn, c_7, Nat.not_le.mpr c_7, c_8, c_9]) (by simp [kFs, kFn, c_7, Nat.not_le.mpr c_7, c_8, c_9]) rfl ls (lv_sub hl [0, 3, 1, 2, 4, 5, 6, 7] rfl) (by omega)
            exact lab_46_6 ((told - 0) + 1) 0 (kFS hd bd ms dy vl told measure sx tx i) (kFN hd bd ms dy told measure sx tx i) 0 (by omega) (rfl) (rfl) rfl ls (lv_sub hl [0, 1, 2, 3, 4, 5, 6, 7] rfl) (Nat.lt_succ_self _)
          · skip
            refine lv_goto (tgt := 106) hx hb dX3_meanDifference_40 (by decide) ?_
            refine lv_iinc (v := nI (i + 1)) (lv' := [(6, .int (nI (i + 1))), (5, .int (nI (kFN hd bd ms dy told measure sx tx i))), (4, .int (kFS hd bd ms dy vl told measure sx tx i)), (0, .ref hT), (1, .int measure), (2, .int sx), (3, .int tx)]) hx hb dX3_meanDifference_106 hl (k := 0) rfl (nI_1 i) (by decide) rfl (fun ls hl => ?_)
            refine lv_goto (tgt := 9) hx hb dX3_meanDifference_109 (by decide) ?_
            exact ih_1 (i + 1) (kFS hd bd ms dy vl told measure sx tx i) (kFN hd bd ms dy told measure sx tx i) (i + 1) (by omega) (by simp [kFS, kFN, c_2, Nat.not_le.mpr c_2, c_4, c_5]) (by simp [kFS, kFN, c_2, Nat.not_le.mpr c_2, c_4, c_5]) rfl ls (lv_sub hl [0, 1, 2, 3, 4, 5, 6] rfl) (by omega)
  exact lab_9_1 ((told - 0) + 1) 0 0 0 0 (by omega) (rfl) (rfl) rfl ls (lv_sub hl [0, 1, 2, 3, 4, 5, 6] rfl) (Nat.lt_succ_self _)
abbrev rm_X3_mixMeasures : Room := { frames := 3, cells := 0, slots := 0, locals := 71 }
set_option maxHeartbeats 4000000 in
set_option maxRecDepth 100000 in
theorem c_X3_mixMeasures (l : Launch) (G : va_G) (cI cZ : ClassId) (hT : Nat) (hT0 : Nat) (hT1 : Nat) (hT2 : Nat) (hT3 : Nat) (hT4 : Nat) (hT5 : Nat) (hd : Nat → Int32) (bd : Nat → Int32) (ms : Nat → Int32) (dy : Nat → Int32) (vl : Nat → Int32) (hbt : Nat → Int32) (told : Nat) (hh : Int64) (hTo : told ≤ 40) (hTi : ∀ i, i < told → vp_in (hd i) 4) : Met l yX3_mixMeasures wsX3_mixMeasures rm_X3_mixMeasures (kx_Pr G cI cZ [(hT, .inr (3, [.ref hT0, .ref hT1, .ref hT2, .ref hT3, .ref hT4, .ref hT5, .int (nI told)])), (hT0, .inl (cI, 40, .inl hd)), (hT1, .inl (cI, 40, .inl bd)), (hT2, .inl (cI, 40, .inl ms)), (hT3, .inl (cI, 40, .inl dy)), (hT4, .inl (cI, 40, .inl vl)), (hT5, .inl (cI, 24, .inl hbt))] [.ref hT, .long hh]) (kx_QL (kMB hd bd ms dy vl hbt told 6 hh)) 0 0 (fun _ => False) := by
  refine Met.ofW (cc := cX3_mixMeasures) (maxL := 7) (ret := (some .long)) (by decide) rfl ?_
  intro p e s m args below meth c s₁ B hml hv
  obtain ⟨rfl, hP, hK⟩ := hv
  have hx := B.exec
  have hb := B.bytes
  have hr := B.returns
  have hts := atoms_spec (ws := wsX3_mixMeasures) B.pre
  have hown : s.vm.findClass RX3 = some m.cls := findClass_of_methodNamed B.named
  have hlocks := B.notSynchronized
  have hl := lv_entry ([.ref hT, .long hh]) (n := 7) (Nat.le_of_ble_eq_true rfl)
  rw [lg_entry_eq]
  generalize (lg_sl ([.ref hT, .long hh]) ++ List.replicate (7 - (lg_sl ([.ref hT, .long hh])).length) Slot.unset).toArray = ls at hl ⊢
  have hl : lv_has ls 7 [(0, .ref hT), (1, .long hh)] := hl
  refine lv_lload_n hx hb dX3_mixMeasures_0 rfl (lv_at hl 1 rfl) ?_
  refine lv_lstore_n (lv' := [(3, .long hh), (0, .ref hT), (1, .long hh)]) hx hb dX3_mixMeasures_1 rfl hl (by decide) rfl (fun ls hl => ?_)
  refine lv_iconst (v := 0) hx hb dX3_mixMeasures_2 (by decide) ?_
  refine lv_istore (lv' := [(5, .int 0), (3, .long hh), (0, .ref hT), (1, .long hh)]) hx hb dX3_mixMeasures_3 hl (by decide) rfl (fun ls hl => ?_)
  have lab_5_1 : ∀ (nn_1 : Nat) (b : Nat) (z1_0 : Int64) (z1_1 : Nat) (hb6 : b ≤ 6) (ez1_0 : (kMB hd bd ms dy vl hbt told b hh) = z1_0) (ez1_1 : b = z1_1) (ls : Array Slot) (hl : lv_has ls 7 [(5, .int (nI z1_1)), (3, .long z1_0), (0, .ref hT), (1, .long hh)]), (6 - b) < nn_1 → W p l e (headSpec wsX3_mixMeasures rm_X3_mixMeasures).room s m ([.ref hT, .long hh] : List Value).toArray below meth c s.heap [] 0 0 (MQ below (kx_QL (kMB hd bd ms dy vl hbt told 6 hh)) ([.ref hT, .long hh] : List Value).toArray s 0 0 (fun _ => False)) (F0 m 5 ls []) := by
    intro nn_1
    induction nn_1 with
    | zero => intro b z1_0 z1_1 hb6 ez1_0 ez1_1 ls hl hn; exact absurd hn (Nat.not_lt_zero _)
    | succ nn_1 ih_1 =>
      intro b z1_0 z1_1 hb6 ez1_0 ez1_1 ls hl hn_1
      subst ez1_0
      subst ez1_1
      refine lv_iload hx hb dX3_mixMeasures_5 (lv_at hl 0 rfl) ?_
      refine lv_bipush (v := 6) hx hb dX3_mixMeasures_7 (by decide) ?_
      refine kx_geN hx hb b 6 (by omega) (by omega) (tgt := 48) dX3_mixMeasures_9 (by decide) (fun c_2 => ?_) (fun c_2 => ?_)
      · skip
        have hE : b = 6 := by omega
        subst hE
        refine lv_lload_n hx hb dX3_mixMeasures_48 rfl (lv_at hl 1 rfl) ?_
        exact kx_lret hx hb hr (rfl) dX3_mixMeasures_49 hlocks
      · skip
        refine lv_iconst (v := 0) hx hb dX3_mixMeasures_12 (by decide) ?_
        refine lv_istore (lv' := [(6, .int 0), (5, .int (nI b)), (3, .long (kMB hd bd ms dy vl hbt told b hh)), (0, .ref hT), (1, .long hh)]) hx hb dX3_mixMeasures_13 hl (by decide) rfl (fun ls hl => ?_)
        have lab_15_3 : ∀ (nn_3 : Nat) (j : Nat) (z3_0 : Int64) (z3_1 : Nat) (hj6 : j ≤ 6) (ez3_0 : (kMM hd bd ms dy vl hbt told b j (kMB hd bd ms dy vl hbt told b hh)) = z3_0) (ez3_1 : j = z3_1) (ls : Array Slot) (hl : lv_has ls 7 [(6, .int (nI z3_1)), (5, .int (nI b)), (3, .long z3_0), (0, .ref hT), (1, .long hh)]), (6 - j) < nn_3 → W p l e (headSpec wsX3_mixMeasures rm_X3_mixMeasures).room s m ([.ref hT, .long hh] : List Value).toArray below meth c s.heap [] 0 0 (MQ below (kx_QL (kMB hd bd ms dy vl hbt told 6 hh)) ([.ref hT, .long hh] : List Value).toArray s 0 0 (fun _ => False)) (F0 m 15 ls []) := by
          intro nn_3
          induction nn_3 with
          | zero => intro j z3_0 z3_1 hj6 ez3_0 ez3_1 ls hl hn; exact absurd hn (Nat.not_lt_zero _)
          | succ nn_3 ih_3 =>
            intro j z3_0 z3_1 hj6 ez3_0 ez3_1 ls hl hn_3
            subst ez3_0
            subst ez3_1
            refine lv_iload hx hb dX3_mixMeasures_15 (lv_at hl 0 rfl) ?_
            refine lv_bipush (v := 6) hx hb dX3_mixMeasures_17 (by decide) ?_
            refine kx_geN hx hb j 6 (by omega) (by omega) (tgt := 42) dX3_mixMeasures_19 (by decide) (fun c_4 => ?_) (fun c_4 => ?_)
            · skip
              have hE : j = 6 := by omega
              subst hE
              refine lv_iinc (v := nI (b + 1)) (lv' := [(5, .int (nI (b + 1))), (6, .int (nI 6)), (3, .long (kMM hd bd ms dy vl hbt told b 6 (kMB hd bd ms dy vl hbt told b hh))), (0, .ref hT), (1, .long hh)]) hx hb dX3_mixMeasures_42 hl (k := 1) rfl (nI_1 b) (by decide) rfl (fun ls hl => ?_)
              refine lv_goto (tgt := 5) hx hb dX3_mixMeasures_45 (by decide) ?_
              exact ih_1 (b + 1) (kMM hd bd ms dy vl hbt told b 6 (kMB hd bd ms dy vl hbt told b hh)) (b + 1) (by omega) (by simp [kMB, c_2, Nat.not_le.mpr c_2, c_4, Nat.not_lt.mpr c_4]) rfl ls (lv_sub hl [0, 2, 3, 4] rfl) (by omega)
            · skip
              refine lv_lload_n hx hb dX3_mixMeasures_22 rfl (lv_at hl 2 rfl) ?_
              refine lv_aload_n hx hb dX3_mixMeasures_23 rfl (lv_at hl 3 rfl) ?_
              refine lv_iload hx hb dX3_mixMeasures_24 (lv_at hl 1 rfl) ?_
              refine lv_iload hx hb dX3_mixMeasures_26 (lv_at hl 0 rfl) ?_
              refine kx_ri (va_runV (As := [.int (nI b), .int (nI j)]) (rest := [.long (kMM hd bd ms dy vl hbt told b j (kMB hd bd ms dy vl hbt told b hh))]) ⟨hx, hb, hml, hown, hts⟩ (c_X3_latest l G cI cZ hT hT0 hT1 hT2 hT3 hT4 hT5 hd bd ms dy vl hbt told (nI b) (nI j) (by first | assumption | omega) (by first | assumption | omega) (vp_in_nI (by omega) (by decide))) (cwV 2 hts gX3_mixMeasures_X3_latest rfl rfl rfl (by decide +kernel) ⟨(Nat.le_of_ble_eq_true rfl), (Nat.le_of_ble_eq_true rfl)⟩) (kx_preR hK (kx_sub 0 7 hP rfl) 0 rfl rfl) rfl rfl hl.1 rfl (lv_room (Nat.le_of_ble_eq_true rfl)) dX3_mixMeasures_28 ⟨Nat.zero_le _, Nat.zero_le _⟩) ?_
              refine lv_i2l hx hb dX3_mixMeasures_31 rfl ?_
              refine kx_rl (va_runSN (As := [.long (kMM hd bd ms dy vl hbt told b j (kMB hd bd ms dy vl hbt told b hh)), .long ((kLatest hd bd ms dy vl hbt told (nI b) (nI j)).toInt64)]) (rest := []) ⟨hx, hb, hml, hown, hts⟩ (c_X5_mix l (kMM hd bd ms dy vl hbt told b j (kMB hd bd ms dy vl hbt told b hh)) ((kLatest hd bd ms dy vl hbt told (nI b) (nI j)).toInt64)) ⟨va_cnB 2 hts gX3_mixMeasures_X5_mix_n52 rfl rfl rfl (hK.2 _ (List.mem_of_getElem? (i := 23) rfl)) (hts (.initialized RX5) (List.mem_of_getElem? (i := 26) rfl)) (by decide +kernel) ⟨(Nat.le_of_ble_eq_true rfl), (Nat.le_of_ble_eq_true rfl)⟩, (hts (.static yX5_mix) (List.mem_of_getElem? (i := 28) rfl)), trivial⟩ kx_preS rfl rfl hl.1 rfl (lv_room (Nat.le_of_ble_eq_true rfl)) dX3_mixMeasures_32 ⟨Nat.zero_le _, Nat.zero_le _⟩) ?_
              refine lv_lstore_n (lv' := [(3, .long (kmix (kMM hd bd ms dy vl hbt told b j (kMB hd bd ms dy vl hbt told b hh)) ((kLatest hd bd ms dy vl hbt told (nI b) (nI j)).toInt64))), (6, .int (nI j)), (5, .int (nI b)), (0, .ref hT), (1, .long hh)]) hx hb dX3_mixMeasures_35 rfl hl (by decide) rfl (fun ls hl => ?_)
              refine lv_iinc (v := nI (j + 1)) (lv' := [(6, .int (nI (j + 1))), (3, .long (kmix (kMM hd bd ms dy vl hbt told b j (kMB hd bd ms dy vl hbt told b hh)) ((kLatest hd bd ms dy vl hbt told (nI b) (nI j)).toInt64))), (5, .int (nI b)), (0, .ref hT), (1, .long hh)]) hx hb dX3_mixMeasures_36 hl (k := 1) rfl (nI_1 j) (by decide) rfl (fun ls hl => ?_)
              refine lv_goto (tgt := 15) hx hb dX3_mixMeasures_39 (by decide) ?_
              exact ih_3 (j + 1) (kmix (kMM hd bd ms dy vl hbt told b j (kMB hd bd ms dy vl hbt told b hh)) ((kLatest hd bd ms dy vl hbt told (nI b) (nI j)).toInt64)) (j + 1) (by omega) (by simp [kMM, c_4, Nat.not_le.mpr c_4]) rfl ls (lv_sub hl [0, 2, 1, 3, 4] rfl) (by omega)
        exact lab_15_3 ((6 - 0) + 1) 0 (kMB hd bd ms dy vl hbt told b hh) 0 (by omega) (rfl) rfl ls (lv_sub hl [0, 1, 2, 3, 4] rfl) (Nat.lt_succ_self _)
  exact lab_5_1 ((6 - 0) + 1) 0 hh 0 (by omega) (rfl) rfl ls (lv_sub hl [0, 1, 2, 3] rfl) (Nat.lt_succ_self _)
theorem h_X3_keep (cI cZ : ClassId) (hT : Nat) (hT0 : Nat) (hT1 : Nat) (hT2 : Nat) (hT3 : Nat) (hT4 : Nat) (hT5 : Nat) (hd : Nat → Int32) (bd : Nat → Int32) (ms : Nat → Int32) (dy : Nat → Int32) (vl : Nat → Int32) (hbt : Nat → Int32) (told : Nat) : ∀ u, (((fun u : (Nat → Int32) × (Nat → Int32) × (Nat → Int32) × (Nat → Int32) × (Nat → Int32) × Nat => [(hT, .inr (3, [.ref hT0, .ref hT1, .ref hT2, .ref hT3, .ref hT4, .ref hT5, .int (nI u.2.2.2.2.2)])), (hT0, .inl (cI, 40, .inl u.1)), (hT1, .inl (cI, 40, .inl u.2.1)), (hT2, .inl (cI, 40, .inl u.2.2.1)), (hT3, .inl (cI, 40, .inl u.2.2.2.1)), (hT4, .inl (cI, 40, .inl u.2.2.2.2.1)), (hT5, .inl (cI, 24, .inl hbt))]) : ((Nat → Int32) × (Nat → Int32) × (Nat → Int32) × (Nat → Int32) × (Nat → Int32) × Nat) → va_W) u).map Prod.fst = ([(hT, .inr (3, [.ref hT0, .ref hT1, .ref hT2, .ref hT3, .ref hT4, .ref hT5, .int (nI told)])), (hT0, .inl (cI, 40, .inl hd)), (hT1, .inl (cI, 40, .inl bd)), (hT2, .inl (cI, 40, .inl ms)), (hT3, .inl (cI, 40, .inl dy)), (hT4, .inl (cI, 40, .inl vl)), (hT5, .inl (cI, 24, .inl hbt))] : va_W).map Prod.fst := fun _ => rfl
abbrev rm_X3_keep : Room := { frames := 0, cells := 0, slots := 0, locals := 0 }
set_option maxHeartbeats 4000000 in
set_option maxRecDepth 100000 in
theorem c_X3_keep (l : Launch) (G : va_G) (cI cZ : ClassId) (hT : Nat) (hT0 : Nat) (hT1 : Nat) (hT2 : Nat) (hT3 : Nat) (hT4 : Nat) (hT5 : Nat) (hd : Nat → Int32) (bd : Nat → Int32) (ms : Nat → Int32) (dy : Nat → Int32) (vl : Nat → Int32) (hbt : Nat → Int32) (told : Nat) (sz : Nat) (hand : Int32) (body : Int32) (measure : Int32) (day : Int32) (v : Int32) (hTo : told ≤ 40) : Met l yX3_keep wsX3_keep rm_X3_keep (kx_Pw G cI cZ [(hT, .inr (3, [.ref hT0, .ref hT1, .ref hT2, .ref hT3, .ref hT4, .ref hT5, .int (nI told)])), (hT0, .inl (cI, 40, .inl hd)), (hT1, .inl (cI, 40, .inl bd)), (hT2, .inl (cI, 40, .inl ms)), (hT3, .inl (cI, 40, .inl dy)), (hT4, .inl (cI, 40, .inl vl)), (hT5, .inl (cI, 24, .inl hbt))] sz [.ref hT, .int hand, .int body, .int measure, .int day, .int v]) (va_Qi (fun (r : Int32) (u : (Nat → Int32) × (Nat → Int32) × (Nat → Int32) × (Nat → Int32) × (Nat → Int32) × Nat) => if told < 40 then r = nI (told + 1) ∧ u.1 = upd hd told hand ∧ u.2.1 = upd bd told body ∧ u.2.2.1 = upd ms told measure ∧ u.2.2.2.1 = upd dy told day ∧ u.2.2.2.2.1 = upd vl told v ∧ u.2.2.2.2.2 = told + 1 else r = -4 ∧ u.1 = hd ∧ u.2.1 = bd ∧ u.2.2.1 = ms ∧ u.2.2.2.1 = dy ∧ u.2.2.2.2.1 = vl ∧ u.2.2.2.2.2 = told) (fun u t => va_P G vwCl ((fun u : (Nat → Int32) × (Nat → Int32) × (Nat → Int32) × (Nat → Int32) × (Nat → Int32) × Nat => [(hT, .inr (3, [.ref hT0, .ref hT1, .ref hT2, .ref hT3, .ref hT4, .ref hT5, .int (nI u.2.2.2.2.2)])), (hT0, .inl (cI, 40, .inl u.1)), (hT1, .inl (cI, 40, .inl u.2.1)), (hT2, .inl (cI, 40, .inl u.2.2.1)), (hT3, .inl (cI, 40, .inl u.2.2.2.1)), (hT4, .inl (cI, 40, .inl u.2.2.2.2.1)), (hT5, .inl (cI, 24, .inl hbt))]) u) t.heap) (va_A [(hT, .inr (3, [.ref hT0, .ref hT1, .ref hT2, .ref hT3, .ref hT4, .ref hT5, .int (nI told)])), (hT0, .inl (cI, 40, .inl hd)), (hT1, .inl (cI, 40, .inl bd)), (hT2, .inl (cI, 40, .inl ms)), (hT3, .inl (cI, 40, .inl dy)), (hT4, .inl (cI, 40, .inl vl)), (hT5, .inl (cI, 24, .inl hbt))] sz)) 0 0 (va_A [(hT, .inr (3, [.ref hT0, .ref hT1, .ref hT2, .ref hT3, .ref hT4, .ref hT5, .int (nI told)])), (hT0, .inl (cI, 40, .inl hd)), (hT1, .inl (cI, 40, .inl bd)), (hT2, .inl (cI, 40, .inl ms)), (hT3, .inl (cI, 40, .inl dy)), (hT4, .inl (cI, 40, .inl vl)), (hT5, .inl (cI, 24, .inl hbt))] sz) := by
  refine Met.ofW (cc := cX3_keep) (maxL := 6) (ret := (some .int)) (by decide) rfl ?_
  intro p e s m args below meth c s₁ B hml hv
  obtain ⟨rfl, hsz, hP, hD0, hK⟩ := hv
  have hx := B.exec
  have hb := B.bytes
  have hr := B.returns
  have hts := atoms_spec (ws := wsX3_keep) B.pre
  have hown : s.vm.findClass RX3 = some m.cls := findClass_of_methodNamed B.named
  have hlocks := B.notSynchronized
  subst hsz
  have hD := hD0.self (sz := s.heap.size)
  generalize hAe : va_A [(hT, .inr (3, [.ref hT0, .ref hT1, .ref hT2, .ref hT3, .ref hT4, .ref hT5, .int (nI told)])), (hT0, .inl (cI, 40, .inl hd)), (hT1, .inl (cI, 40, .inl bd)), (hT2, .inl (cI, 40, .inl ms)), (hT3, .inl (cI, 40, .inl dy)), (hT4, .inl (cI, 40, .inl vl)), (hT5, .inl (cI, 24, .inl hbt))] s.heap.size = A at hD ⊢
  have hA : ∀ q : Nat, s.heap.size ≤ q → A q := fun q h => by rw [← hAe]; exact Or.inr h
  have hS : va_S A s.heap s.heap [] := va_S.rf
  have hl := lv_entry ([.ref hT, .int hand, .int body, .int measure, .int day, .int v]) (n := 6) (Nat.le_of_ble_eq_true rfl)
  rw [lg_entry_eq]
  generalize (lg_sl ([.ref hT, .int hand, .int body, .int measure, .int day, .int v]) ++ List.replicate (6 - (lg_sl ([.ref hT, .int hand, .int body, .int measure, .int day, .int v])).length) Slot.unset).toArray = ls at hl ⊢
  have hl : lv_has ls 6 [(0, .ref hT), (1, .int hand), (2, .int body), (3, .int measure), (4, .int day), (5, .int v)] := hl
  refine lv_aload_n hx hb dX3_keep_0 rfl (lv_at hl 0 rfl) ?_
  refine va_get (D := G) (ci := 3) (v := .int (nI told)) (C := RX3) (T := TX3) (N := 7) hx hb hts (fun _ h => List.mem_cons_of_mem _ (List.mem_append_right _ h)) hown hK.1 hP 0 rfl rfl 6 (by decide) (hts (.fieldLink RX3 30 "TailorHouse$Tellings" "told" "I") (List.mem_of_getElem? (i := 1) rfl)) (fun _ h9 => h9) rfl dX3_keep_1 ?_
  refine lv_bipush (v := 40) hx hb dX3_keep_4 (by decide) ?_
  refine kx_ltN hx hb told 40 (by omega) (by omega) (tgt := 12) dX3_keep_6 (by decide) (fun c_1 => ?_) (fun c_1 => ?_)
  · skip
    refine lv_aload_n hx hb dX3_keep_12 rfl (lv_at hl 0 rfl) ?_
    refine va_get (D := G) (ci := 3) (v := .ref hT0) (C := RX3) (T := TX3) (N := 7) hx hb hts (fun _ h => List.mem_cons_of_mem _ (List.mem_append_right _ h)) hown hK.1 hP 0 rfl rfl 0 (by decide) (hts (.fieldLink RX3 9 "TailorHouse$Tellings" "hands" "[I") (List.mem_of_getElem? (i := 2) rfl)) (fun _ h9 => h9) rfl dX3_keep_13 ?_
    refine lv_aload_n hx hb dX3_keep_16 rfl (lv_at hl 0 rfl) ?_
    refine va_get (D := G) (ci := 3) (v := .int (nI told)) (C := RX3) (T := TX3) (N := 7) hx hb hts (fun _ h => List.mem_cons_of_mem _ (List.mem_append_right _ h)) hown hK.1 hP 0 rfl rfl 6 (by decide) (hts (.fieldLink RX3 30 "TailorHouse$Tellings" "told" "I") (List.mem_of_getElem? (i := 1) rfl)) (fun _ h9 => h9) rfl dX3_keep_17 ?_
    refine lv_iload_n hx hb dX3_keep_20 rfl (lv_at hl 1 rfl) ?_
    refine kx_iastN hx hb hK.1 hP hD hS 1 rfl rfl told (by omega) (by decide) dX3_keep_21 (fun H locs hP hD hS => ?_)
    have hP : va_P G vwCl [(hT, .inr (3, [.ref hT0, .ref hT1, .ref hT2, .ref hT3, .ref hT4, .ref hT5, .int (nI told)])), (hT0, .inl (cI, 40, .inl (upd hd told hand))), (hT1, .inl (cI, 40, .inl bd)), (hT2, .inl (cI, 40, .inl ms)), (hT3, .inl (cI, 40, .inl dy)), (hT4, .inl (cI, 40, .inl vl)), (hT5, .inl (cI, 24, .inl hbt))] H := hP
    have hD : va_D A [(hT, .inr (3, [.ref hT0, .ref hT1, .ref hT2, .ref hT3, .ref hT4, .ref hT5, .int (nI told)])), (hT0, .inl (cI, 40, .inl (upd hd told hand))), (hT1, .inl (cI, 40, .inl bd)), (hT2, .inl (cI, 40, .inl ms)), (hT3, .inl (cI, 40, .inl dy)), (hT4, .inl (cI, 40, .inl vl)), (hT5, .inl (cI, 24, .inl hbt))] := hD
    refine lv_aload_n hx hb dX3_keep_22 rfl (lv_at hl 0 rfl) ?_
    refine va_get (D := G) (ci := 3) (v := .ref hT1) (C := RX3) (T := TX3) (N := 7) hx hb hts (fun _ h => List.mem_cons_of_mem _ (List.mem_append_right _ h)) hown hK.1 hP 0 rfl rfl 1 (by decide) (hts (.fieldLink RX3 15 "TailorHouse$Tellings" "bodies" "[I") (List.mem_of_getElem? (i := 3) rfl)) (fun _ h9 => h9) rfl dX3_keep_23 ?_
    refine lv_aload_n hx hb dX3_keep_26 rfl (lv_at hl 0 rfl) ?_
    refine va_get (D := G) (ci := 3) (v := .int (nI told)) (C := RX3) (T := TX3) (N := 7) hx hb hts (fun _ h => List.mem_cons_of_mem _ (List.mem_append_right _ h)) hown hK.1 hP 0 rfl rfl 6 (by decide) (hts (.fieldLink RX3 30 "TailorHouse$Tellings" "told" "I") (List.mem_of_getElem? (i := 1) rfl)) (fun _ h9 => h9) rfl dX3_keep_27 ?_
    refine lv_iload_n hx hb dX3_keep_30 rfl (lv_at hl 2 rfl) ?_
    refine kx_iastN hx hb hK.1 hP hD hS 2 rfl rfl told (by omega) (by decide) dX3_keep_31 (fun H locs hP hD hS => ?_)
    have hP : va_P G vwCl [(hT, .inr (3, [.ref hT0, .ref hT1, .ref hT2, .ref hT3, .ref hT4, .ref hT5, .int (nI told)])), (hT0, .inl (cI, 40, .inl (upd hd told hand))), (hT1, .inl (cI, 40, .inl (upd bd told body))), (hT2, .inl (cI, 40, .inl ms)), (hT3, .inl (cI, 40, .inl dy)), (hT4, .inl (cI, 40, .inl vl)), (hT5, .inl (cI, 24, .inl hbt))] H := hP
    have hD : va_D A [(hT, .inr (3, [.ref hT0, .ref hT1, .ref hT2, .ref hT3, .ref hT4, .ref hT5, .int (nI told)])), (hT0, .inl (cI, 40, .inl (upd hd told hand))), (hT1, .inl (cI, 40, .inl (upd bd told body))), (hT2, .inl (cI, 40, .inl ms)), (hT3, .inl (cI, 40, .inl dy)), (hT4, .inl (cI, 40, .inl vl)), (hT5, .inl (cI, 24, .inl hbt))] := hD
    refine lv_aload_n hx hb dX3_keep_32 rfl (lv_at hl 0 rfl) ?_
    refine va_get (D := G) (ci := 3) (v := .ref hT2) (C := RX3) (T := TX3) (N := 7) hx hb hts (fun _ h => List.mem_cons_of_mem _ (List.mem_append_right _ h)) hown hK.1 hP 0 rfl rfl 2 (by decide) (hts (.fieldLink RX3 18 "TailorHouse$Tellings" "measures" "[I") (List.mem_of_getElem? (i := 4) rfl)) (fun _ h9 => h9) rfl dX3_keep_33 ?_
    refine lv_aload_n hx hb dX3_keep_36 rfl (lv_at hl 0 rfl) ?_
    refine va_get (D := G) (ci := 3) (v := .int (nI told)) (C := RX3) (T := TX3) (N := 7) hx hb hts (fun _ h => List.mem_cons_of_mem _ (List.mem_append_right _ h)) hown hK.1 hP 0 rfl rfl 6 (by decide) (hts (.fieldLink RX3 30 "TailorHouse$Tellings" "told" "I") (List.mem_of_getElem? (i := 1) rfl)) (fun _ h9 => h9) rfl dX3_keep_37 ?_
    refine lv_iload_n hx hb dX3_keep_40 rfl (lv_at hl 3 rfl) ?_
    refine kx_iastN hx hb hK.1 hP hD hS 3 rfl rfl told (by omega) (by decide) dX3_keep_41 (fun H locs hP hD hS => ?_)
    have hP : va_P G vwCl [(hT, .inr (3, [.ref hT0, .ref hT1, .ref hT2, .ref hT3, .ref hT4, .ref hT5, .int (nI told)])), (hT0, .inl (cI, 40, .inl (upd hd told hand))), (hT1, .inl (cI, 40, .inl (upd bd told body))), (hT2, .inl (cI, 40, .inl (upd ms told measure))), (hT3, .inl (cI, 40, .inl dy)), (hT4, .inl (cI, 40, .inl vl)), (hT5, .inl (cI, 24, .inl hbt))] H := hP
    have hD : va_D A [(hT, .inr (3, [.ref hT0, .ref hT1, .ref hT2, .ref hT3, .ref hT4, .ref hT5, .int (nI told)])), (hT0, .inl (cI, 40, .inl (upd hd told hand))), (hT1, .inl (cI, 40, .inl (upd bd told body))), (hT2, .inl (cI, 40, .inl (upd ms told measure))), (hT3, .inl (cI, 40, .inl dy)), (hT4, .inl (cI, 40, .inl vl)), (hT5, .inl (cI, 24, .inl hbt))] := hD
    refine lv_aload_n hx hb dX3_keep_42 rfl (lv_at hl 0 rfl) ?_
    refine va_get (D := G) (ci := 3) (v := .ref hT3) (C := RX3) (T := TX3) (N := 7) hx hb hts (fun _ h => List.mem_cons_of_mem _ (List.mem_append_right _ h)) hown hK.1 hP 0 rfl rfl 3 (by decide) (hts (.fieldLink RX3 21 "TailorHouse$Tellings" "days" "[I") (List.mem_of_getElem? (i := 5) rfl)) (fun _ h9 => h9) rfl dX3_keep_43 ?_
    refine lv_aload_n hx hb dX3_keep_46 rfl (lv_at hl 0 rfl) ?_
    refine va_get (D := G) (ci := 3) (v := .int (nI told)) (C := RX3) (T := TX3) (N := 7) hx hb hts (fun _ h => List.mem_cons_of_mem _ (List.mem_append_right _ h)) hown hK.1 hP 0 rfl rfl 6 (by decide) (hts (.fieldLink RX3 30 "TailorHouse$Tellings" "told" "I") (List.mem_of_getElem? (i := 1) rfl)) (fun _ h9 => h9) rfl dX3_keep_47 ?_
    refine lv_iload hx hb dX3_keep_50 (lv_at hl 4 rfl) ?_
    refine kx_iastN hx hb hK.1 hP hD hS 4 rfl rfl told (by omega) (by decide) dX3_keep_52 (fun H locs hP hD hS => ?_)
    have hP : va_P G vwCl [(hT, .inr (3, [.ref hT0, .ref hT1, .ref hT2, .ref hT3, .ref hT4, .ref hT5, .int (nI told)])), (hT0, .inl (cI, 40, .inl (upd hd told hand))), (hT1, .inl (cI, 40, .inl (upd bd told body))), (hT2, .inl (cI, 40, .inl (upd ms told measure))), (hT3, .inl (cI, 40, .inl (upd dy told day))), (hT4, .inl (cI, 40, .inl vl)), (hT5, .inl (cI, 24, .inl hbt))] H := hP
    have hD : va_D A [(hT, .inr (3, [.ref hT0, .ref hT1, .ref hT2, .ref hT3, .ref hT4, .ref hT5, .int (nI told)])), (hT0, .inl (cI, 40, .inl (upd hd told hand))), (hT1, .inl (cI, 40, .inl (upd bd told body))), (hT2, .inl (cI, 40, .inl (upd ms told measure))), (hT3, .inl (cI, 40, .inl (upd dy told day))), (hT4, .inl (cI, 40, .inl vl)), (hT5, .inl (cI, 24, .inl hbt))] := hD
    refine lv_aload_n hx hb dX3_keep_53 rfl (lv_at hl 0 rfl) ?_
    refine va_get (D := G) (ci := 3) (v := .ref hT4) (C := RX3) (T := TX3) (N := 7) hx hb hts (fun _ h => List.mem_cons_of_mem _ (List.mem_append_right _ h)) hown hK.1 hP 0 rfl rfl 4 (by decide) (hts (.fieldLink RX3 24 "TailorHouse$Tellings" "values" "[I") (List.mem_of_getElem? (i := 6) rfl)) (fun _ h9 => h9) rfl dX3_keep_54 ?_
    refine lv_aload_n hx hb dX3_keep_57 rfl (lv_at hl 0 rfl) ?_
    refine va_get (D := G) (ci := 3) (v := .int (nI told)) (C := RX3) (T := TX3) (N := 7) hx hb hts (fun _ h => List.mem_cons_of_mem _ (List.mem_append_right _ h)) hown hK.1 hP 0 rfl rfl 6 (by decide) (hts (.fieldLink RX3 30 "TailorHouse$Tellings" "told" "I") (List.mem_of_getElem? (i := 1) rfl)) (fun _ h9 => h9) rfl dX3_keep_58 ?_
    refine lv_iload hx hb dX3_keep_61 (lv_at hl 5 rfl) ?_
    refine kx_iastN hx hb hK.1 hP hD hS 5 rfl rfl told (by omega) (by decide) dX3_keep_63 (fun H locs hP hD hS => ?_)
    have hP : va_P G vwCl [(hT, .inr (3, [.ref hT0, .ref hT1, .ref hT2, .ref hT3, .ref hT4, .ref hT5, .int (nI told)])), (hT0, .inl (cI, 40, .inl (upd hd told hand))), (hT1, .inl (cI, 40, .inl (upd bd told body))), (hT2, .inl (cI, 40, .inl (upd ms told measure))), (hT3, .inl (cI, 40, .inl (upd dy told day))), (hT4, .inl (cI, 40, .inl (upd vl told v))), (hT5, .inl (cI, 24, .inl hbt))] H := hP
    have hD : va_D A [(hT, .inr (3, [.ref hT0, .ref hT1, .ref hT2, .ref hT3, .ref hT4, .ref hT5, .int (nI told)])), (hT0, .inl (cI, 40, .inl (upd hd told hand))), (hT1, .inl (cI, 40, .inl (upd bd told body))), (hT2, .inl (cI, 40, .inl (upd ms told measure))), (hT3, .inl (cI, 40, .inl (upd dy told day))), (hT4, .inl (cI, 40, .inl (upd vl told v))), (hT5, .inl (cI, 24, .inl hbt))] := hD
    refine lv_aload_n hx hb dX3_keep_64 rfl (lv_at hl 0 rfl) ?_
    refine lv_dup hx hb dX3_keep_65 rfl ?_
    refine va_get (D := G) (ci := 3) (v := .int (nI told)) (C := RX3) (T := TX3) (N := 7) hx hb hts (fun _ h => List.mem_cons_of_mem _ (List.mem_append_right _ h)) hown hK.1 hP 0 rfl rfl 6 (by decide) (hts (.fieldLink RX3 30 "TailorHouse$Tellings" "told" "I") (List.mem_of_getElem? (i := 1) rfl)) (fun _ h9 => h9) rfl dX3_keep_66 ?_
    refine lv_iconst (v := 1) hx hb dX3_keep_69 (by decide) ?_
    refine kx_iaddN hx hb told 1 dX3_keep_70 ?_
    refine va_put (D := G) (ci := 3) (v := .int (nI (told + 1))) (ty := .int) (C := RX3) (T := TX3) (N := 7) hx hb hts (fun _ h => List.mem_cons_of_mem _ (List.mem_append_right _ h)) tyX3 tyX3_ok nmX3 hown hK.1 hP hD hS 0 rfl rfl 6 (by decide) (hts (.fieldLink RX3 30 "TailorHouse$Tellings" "told" "I") (List.mem_of_getElem? (i := 1) rfl)) (fun _ h9 => h9) rfl (by decide +kernel) rfl rfl (Nat.le_of_ble_eq_true rfl) dX3_keep_71 (fun H locs hP hD hS => ?_)
    have hP : va_P G vwCl [(hT, .inr (3, [.ref hT0, .ref hT1, .ref hT2, .ref hT3, .ref hT4, .ref hT5, .int (nI (told + 1))])), (hT0, .inl (cI, 40, .inl (upd hd told hand))), (hT1, .inl (cI, 40, .inl (upd bd told body))), (hT2, .inl (cI, 40, .inl (upd ms told measure))), (hT3, .inl (cI, 40, .inl (upd dy told day))), (hT4, .inl (cI, 40, .inl (upd vl told v))), (hT5, .inl (cI, 24, .inl hbt))] H := hP
    have hD : va_D A [(hT, .inr (3, [.ref hT0, .ref hT1, .ref hT2, .ref hT3, .ref hT4, .ref hT5, .int (nI (told + 1))])), (hT0, .inl (cI, 40, .inl (upd hd told hand))), (hT1, .inl (cI, 40, .inl (upd bd told body))), (hT2, .inl (cI, 40, .inl (upd ms told measure))), (hT3, .inl (cI, 40, .inl (upd dy told day))), (hT4, .inl (cI, 40, .inl (upd vl told v))), (hT5, .inl (cI, 24, .inl hbt))] := hD
    refine lv_aload_n hx hb dX3_keep_74 rfl (lv_at hl 0 rfl) ?_
    refine va_get (D := G) (ci := 3) (v := .int (nI (told + 1))) (C := RX3) (T := TX3) (N := 7) hx hb hts (fun _ h => List.mem_cons_of_mem _ (List.mem_append_right _ h)) hown hK.1 hP 0 rfl rfl 6 (by decide) (hts (.fieldLink RX3 30 "TailorHouse$Tellings" "told" "I") (List.mem_of_getElem? (i := 1) rfl)) (fun _ h9 => h9) rfl dX3_keep_75 ?_
    exact W.iret (v := (nI (told + 1))) hx hb hr (fun t ht hW => ⟨⟨(nI (told + 1)), (upd hd told hand, upd bd told body, upd ms told measure, upd dy told day, upd vl told v, told + 1), rfl, by simp [c_1, Nat.not_le.mpr c_1], by (show va_P G vwCl _ t.heap; rw [ht]; exact hP)⟩, hS.F ht⟩) hS.2.2 dX3_keep_78 hlocks
  · skip
    refine lv_bipush (v := (-4)) hx hb dX3_keep_9 (by decide) ?_
    exact W.iret (v := (-4)) hx hb hr (fun t ht hW => ⟨⟨(-4), (hd, bd, ms, dy, vl, told), rfl, by simp [c_1, Nat.not_lt.mpr c_1], by (show va_P G vwCl _ t.heap; rw [ht]; exact hP)⟩, hS.F ht⟩) hS.2.2 dX3_keep_11 hlocks
theorem h_X3_changeHabit (cI cZ : ClassId) (hT : Nat) (hT0 : Nat) (hT1 : Nat) (hT2 : Nat) (hT3 : Nat) (hT4 : Nat) (hT5 : Nat) (hd : Nat → Int32) (bd : Nat → Int32) (ms : Nat → Int32) (dy : Nat → Int32) (vl : Nat → Int32) (hbt : Nat → Int32) (told : Nat) : ∀ u, (((fun u : (Nat → Int32) => [(hT, .inr (3, [.ref hT0, .ref hT1, .ref hT2, .ref hT3, .ref hT4, .ref hT5, .int (nI told)])), (hT0, .inl (cI, 40, .inl hd)), (hT1, .inl (cI, 40, .inl bd)), (hT2, .inl (cI, 40, .inl ms)), (hT3, .inl (cI, 40, .inl dy)), (hT4, .inl (cI, 40, .inl vl)), (hT5, .inl (cI, 24, .inl u))]) : (Nat → Int32) → va_W) u).map Prod.fst = ([(hT, .inr (3, [.ref hT0, .ref hT1, .ref hT2, .ref hT3, .ref hT4, .ref hT5, .int (nI told)])), (hT0, .inl (cI, 40, .inl hd)), (hT1, .inl (cI, 40, .inl bd)), (hT2, .inl (cI, 40, .inl ms)), (hT3, .inl (cI, 40, .inl dy)), (hT4, .inl (cI, 40, .inl vl)), (hT5, .inl (cI, 24, .inl hbt))] : va_W).map Prod.fst := fun _ => rfl
abbrev rm_X3_changeHabit : Room := { frames := 0, cells := 0, slots := 0, locals := 0 }
set_option maxHeartbeats 4000000 in
set_option maxRecDepth 100000 in
theorem c_X3_changeHabit (l : Launch) (G : va_G) (cI cZ : ClassId) (hT : Nat) (hT0 : Nat) (hT1 : Nat) (hT2 : Nat) (hT3 : Nat) (hT4 : Nat) (hT5 : Nat) (hd : Nat → Int32) (bd : Nat → Int32) (ms : Nat → Int32) (dy : Nat → Int32) (vl : Nat → Int32) (hbt : Nat → Int32) (told : Nat) (sz : Nat) (hand : Int32) (measure : Int32) (v : Int32) (hp : vp_in (hand * 6 + measure) 24) : Met l yX3_changeHabit wsX3_changeHabit rm_X3_changeHabit (kx_Pw G cI cZ [(hT, .inr (3, [.ref hT0, .ref hT1, .ref hT2, .ref hT3, .ref hT4, .ref hT5, .int (nI told)])), (hT0, .inl (cI, 40, .inl hd)), (hT1, .inl (cI, 40, .inl bd)), (hT2, .inl (cI, 40, .inl ms)), (hT3, .inl (cI, 40, .inl dy)), (hT4, .inl (cI, 40, .inl vl)), (hT5, .inl (cI, 24, .inl hbt))] sz [.ref hT, .int hand, .int measure, .int v]) (va_Qi (fun (r : Int32) (u : (Nat → Int32)) => hbt (hand * 6 + measure).toNatClampNeg = r ∧ upd hbt (hand * 6 + measure).toNatClampNeg v = u) (fun u t => va_P G vwCl ((fun u : (Nat → Int32) => [(hT, .inr (3, [.ref hT0, .ref hT1, .ref hT2, .ref hT3, .ref hT4, .ref hT5, .int (nI told)])), (hT0, .inl (cI, 40, .inl hd)), (hT1, .inl (cI, 40, .inl bd)), (hT2, .inl (cI, 40, .inl ms)), (hT3, .inl (cI, 40, .inl dy)), (hT4, .inl (cI, 40, .inl vl)), (hT5, .inl (cI, 24, .inl u))]) u) t.heap) (va_A [(hT, .inr (3, [.ref hT0, .ref hT1, .ref hT2, .ref hT3, .ref hT4, .ref hT5, .int (nI told)])), (hT0, .inl (cI, 40, .inl hd)), (hT1, .inl (cI, 40, .inl bd)), (hT2, .inl (cI, 40, .inl ms)), (hT3, .inl (cI, 40, .inl dy)), (hT4, .inl (cI, 40, .inl vl)), (hT5, .inl (cI, 24, .inl hbt))] sz)) 0 0 (va_A [(hT, .inr (3, [.ref hT0, .ref hT1, .ref hT2, .ref hT3, .ref hT4, .ref hT5, .int (nI told)])), (hT0, .inl (cI, 40, .inl hd)), (hT1, .inl (cI, 40, .inl bd)), (hT2, .inl (cI, 40, .inl ms)), (hT3, .inl (cI, 40, .inl dy)), (hT4, .inl (cI, 40, .inl vl)), (hT5, .inl (cI, 24, .inl hbt))] sz) := by
  refine Met.ofW (cc := cX3_changeHabit) (maxL := 6) (ret := (some .int)) (by decide) rfl ?_
  intro p e s m args below meth c s₁ B hml hv
  obtain ⟨rfl, hsz, hP, hD0, hK⟩ := hv
  have hx := B.exec
  have hb := B.bytes
  have hr := B.returns
  have hts := atoms_spec (ws := wsX3_changeHabit) B.pre
  have hown : s.vm.findClass RX3 = some m.cls := findClass_of_methodNamed B.named
  have hlocks := B.notSynchronized
  subst hsz
  have hD := hD0.self (sz := s.heap.size)
  generalize hAe : va_A [(hT, .inr (3, [.ref hT0, .ref hT1, .ref hT2, .ref hT3, .ref hT4, .ref hT5, .int (nI told)])), (hT0, .inl (cI, 40, .inl hd)), (hT1, .inl (cI, 40, .inl bd)), (hT2, .inl (cI, 40, .inl ms)), (hT3, .inl (cI, 40, .inl dy)), (hT4, .inl (cI, 40, .inl vl)), (hT5, .inl (cI, 24, .inl hbt))] s.heap.size = A at hD ⊢
  have hA : ∀ q : Nat, s.heap.size ≤ q → A q := fun q h => by rw [← hAe]; exact Or.inr h
  have hS : va_S A s.heap s.heap [] := va_S.rf
  have hl := lv_entry ([.ref hT, .int hand, .int measure, .int v]) (n := 6) (Nat.le_of_ble_eq_true rfl)
  rw [lg_entry_eq]
  generalize (lg_sl ([.ref hT, .int hand, .int measure, .int v]) ++ List.replicate (6 - (lg_sl ([.ref hT, .int hand, .int measure, .int v])).length) Slot.unset).toArray = ls at hl ⊢
  have hl : lv_has ls 6 [(0, .ref hT), (1, .int hand), (2, .int measure), (3, .int v)] := hl
  refine lv_iload_n hx hb dX3_changeHabit_0 rfl (lv_at hl 1 rfl) ?_
  refine lv_bipush (v := 6) hx hb dX3_changeHabit_1 (by decide) ?_
  refine lv_imul hx hb dX3_changeHabit_3 ?_
  refine lv_iload_n hx hb dX3_changeHabit_4 rfl (lv_at hl 2 rfl) ?_
  refine lv_iadd hx hb dX3_changeHabit_5 ?_
  refine lv_istore (lv' := [(4, .int ((hand * 6) + measure)), (0, .ref hT), (1, .int hand), (2, .int measure), (3, .int v)]) hx hb dX3_changeHabit_6 hl (by decide) rfl (fun ls hl => ?_)
  refine lv_aload_n hx hb dX3_changeHabit_8 rfl (lv_at hl 1 rfl) ?_
  refine va_get (D := G) (ci := 3) (v := .ref hT5) (C := RX3) (T := TX3) (N := 7) hx hb hts (fun _ h => List.mem_cons_of_mem _ (List.mem_append_right _ h)) hown hK.1 hP 0 rfl rfl 5 (by decide) (hts (.fieldLink RX3 27 "TailorHouse$Tellings" "habits" "[I") (List.mem_of_getElem? (i := 1) rfl)) (fun _ h9 => h9) rfl dX3_changeHabit_9 ?_
  refine lv_iload hx hb dX3_changeHabit_12 (lv_at hl 0 rfl) ?_
  refine va_iald hx hb hK.1 hP 6 0 rfl rfl (hp) dX3_changeHabit_14 ?_
  refine lv_istore (lv' := [(5, .int (hbt ((hand * 6) + measure).toNatClampNeg)), (4, .int ((hand * 6) + measure)), (0, .ref hT), (1, .int hand), (2, .int measure), (3, .int v)]) hx hb dX3_changeHabit_15 hl (by decide) rfl (fun ls hl => ?_)
  refine lv_aload_n hx hb dX3_changeHabit_17 rfl (lv_at hl 2 rfl) ?_
  refine va_get (D := G) (ci := 3) (v := .ref hT5) (C := RX3) (T := TX3) (N := 7) hx hb hts (fun _ h => List.mem_cons_of_mem _ (List.mem_append_right _ h)) hown hK.1 hP 0 rfl rfl 5 (by decide) (hts (.fieldLink RX3 27 "TailorHouse$Tellings" "habits" "[I") (List.mem_of_getElem? (i := 1) rfl)) (fun _ h9 => h9) rfl dX3_changeHabit_18 ?_
  refine lv_iload hx hb dX3_changeHabit_21 (lv_at hl 1 rfl) ?_
  refine lv_iload_n hx hb dX3_changeHabit_23 rfl (lv_at hl 5 rfl) ?_
  refine va_iast hx hb hK.1 hP hD hS 6 0 rfl rfl (hp) dX3_changeHabit_24 (fun H locs hP hD hS => ?_)
  have hP : va_P G vwCl [(hT, .inr (3, [.ref hT0, .ref hT1, .ref hT2, .ref hT3, .ref hT4, .ref hT5, .int (nI told)])), (hT0, .inl (cI, 40, .inl hd)), (hT1, .inl (cI, 40, .inl bd)), (hT2, .inl (cI, 40, .inl ms)), (hT3, .inl (cI, 40, .inl dy)), (hT4, .inl (cI, 40, .inl vl)), (hT5, .inl (cI, 24, .inl (upd hbt ((hand * 6) + measure).toNatClampNeg v)))] H := hP
  have hD : va_D A [(hT, .inr (3, [.ref hT0, .ref hT1, .ref hT2, .ref hT3, .ref hT4, .ref hT5, .int (nI told)])), (hT0, .inl (cI, 40, .inl hd)), (hT1, .inl (cI, 40, .inl bd)), (hT2, .inl (cI, 40, .inl ms)), (hT3, .inl (cI, 40, .inl dy)), (hT4, .inl (cI, 40, .inl vl)), (hT5, .inl (cI, 24, .inl (upd hbt ((hand * 6) + measure).toNatClampNeg v)))] := hD
  refine lv_iload hx hb dX3_changeHabit_25 (lv_at hl 0 rfl) ?_
  exact W.iret (v := (hbt ((hand * 6) + measure).toNatClampNeg)) hx hb hr (fun t ht hW => ⟨⟨(hbt ((hand * 6) + measure).toNatClampNeg), (upd hbt ((hand * 6) + measure).toNatClampNeg v), rfl, ⟨rfl, rfl⟩, by (show va_P G vwCl _ t.heap; rw [ht]; exact hP)⟩, hS.F ht⟩) hS.2.2 dX3_changeHabit_27 hlocks
