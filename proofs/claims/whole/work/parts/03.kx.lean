/-! what a state knows of the tables, in one: the classes, the two array classes, the private links between nest mates -/
abbrev kx_ty (cI cZ : ClassId) : List (ClassId × FieldType) := [(cI, .int), (cZ, .boolean)]
def kx_isN : Cond → Bool
  | .fieldLinkNest .. => true
  | .methodLinkNest .. => true
  | _ => false
def kx_ns : List Cond := [.fieldLinkNest "TailorHouse" 168 "TailorHouse$Tellings" "told" "I" "TailorHouse", .fieldLinkNest "TailorHouse$Pattern" 47 "TailorHouse$Draft" "x" "[I" "TailorHouse", .fieldLinkNest "TailorHouse" 94 "TailorHouse$Draft" "x" "[I" "TailorHouse", .fieldLinkNest "TailorHouse$Pattern" 52 "TailorHouse$Draft" "y" "[I" "TailorHouse", .fieldLinkNest "TailorHouse" 98 "TailorHouse$Draft" "y" "[I" "TailorHouse", .fieldLinkNest "TailorHouse" 171 "TailorHouse$Draft" "points" "I" "TailorHouse", .fieldLinkNest "TailorHouse$Table" 41 "TailorHouse$Pattern" "pieces" "I" "TailorHouse", .fieldLinkNest "TailorHouse" 142 "TailorHouse$Pattern" "pieces" "I" "TailorHouse", .fieldLinkNest "TailorHouse" 174 "TailorHouse$Pattern" "seams" "I" "TailorHouse", .fieldLinkNest "TailorHouse" 146 "TailorHouse$Table" "bestOrder" "[I" "TailorHouse", .fieldLinkNest "TailorHouse" 167 "TailorHouse$Workshop" "bestOrder" "[I" "TailorHouse", .fieldLinkNest "TailorHouse" 155 "TailorHouse$Workshop" "coats" "I" "TailorHouse", .fieldLinkNest "TailorHouse" 161 "TailorHouse$Workshop" "leastLate" "I" "TailorHouse", .fieldLinkNest "TailorHouse" 164 "TailorHouse$Workshop" "leastEnd" "I" "TailorHouse", .methodLinkNest "TailorHouse" 11 ⟨"TailorHouse$Tellings", "<init>", "()V"⟩ "TailorHouse", .methodLinkNest "TailorHouse" 36 ⟨"TailorHouse$Table", "<init>", "()V"⟩ "TailorHouse", .methodLinkNest "TailorHouse" 43 ⟨"TailorHouse$Workshop", "<init>", "()V"⟩ "TailorHouse", .methodLinkNest "TailorHouse$Tellings" 45 ⟨"TailorHouse", "divide", "(II)I"⟩ "TailorHouse", .methodLinkNest "TailorHouse$Draft" 44 ⟨"TailorHouse", "within", "(III)Z"⟩ "TailorHouse", .methodLinkNest "TailorHouse$Draft" 73 ⟨"TailorHouse", "divide", "(II)I"⟩ "TailorHouse", .methodLinkNest "TailorHouse$Pattern" 32 ⟨"TailorHouse", "within", "(III)Z"⟩ "TailorHouse", .methodLinkNest "TailorHouse$Pattern" 57 ⟨"TailorHouse", "root", "(J)I"⟩ "TailorHouse", .methodLinkNest "TailorHouse$Table" 71 ⟨"TailorHouse", "divide", "(II)I"⟩ "TailorHouse", .methodLinkNest "TailorHouse$Tellings" 52 ⟨"TailorHouse", "mix", "(JJ)J"⟩ "TailorHouse", .methodLinkNest "TailorHouse$Draft" 61 ⟨"TailorHouse", "mix", "(JJ)J"⟩ "TailorHouse", .methodLinkNest "TailorHouse$Pattern" 77 ⟨"TailorHouse", "mix", "(JJ)J"⟩ "TailorHouse", .methodLinkNest "TailorHouse$Workshop" 49 ⟨"TailorHouse", "mix", "(JJ)J"⟩ "TailorHouse"]
theorem kx_ns_ok : kx_ns.all kx_isN = true := by decide +kernel
def kx_N (U : State) : Prop := ∀ w ∈ kx_ns, va_Nw w U
theorem kx_nw {w : Cond} (h : kx_isN w = true) {s U : State} (hW : s.WarmedH U.vm) (h2 : va_Nw w s) : va_Nw w U := by
  cases w
  case fieldLinkNest => exact va_Nw.warmF hW h2
  case methodLinkNest => exact va_Nw.warmM hW h2
  all_goals cases h
theorem kx_nt {w : Cond} (h : kx_isN w = true) : w.onTables = true := by
  cases w
  case fieldLinkNest => rfl
  case methodLinkNest => rfl
  all_goals cases h
theorem kx_N.warm {s U : State} (hW : s.WarmedH U.vm) (h : kx_N s) : kx_N U := fun w hw => kx_nw (List.all_eq_true.mp kx_ns_ok w hw) hW (h w hw)
theorem kx_N.same {u U : State} (hv : u.vm = U.vm) (h : kx_N u) : kx_N U := fun w hw => va_Nw.same (kx_nt (List.all_eq_true.mp kx_ns_ok w hw)) hv (h w hw)
def kx_K (G : va_G) (cI cZ : ClassId) (U : State) : Prop := va_K G vwCl (kx_ty cI cZ) U ∧ kx_N U
theorem kx_K.warm {G : va_G} {cI cZ : ClassId} {s U : State} (hW : s.WarmedH U.vm) (h : kx_K G cI cZ s) : kx_K G cI cZ U := ⟨va_K.moved hW.alike h.1, h.2.warm hW⟩
theorem kx_K.call {G : va_G} {cI cZ : ClassId} {U : State} {g : JFrame} {mk : MethodId} {a : Array Value} (h : kx_K G cI cZ U) : kx_K G cI cZ (U.calling g mk a) := ⟨va_K.moved (u := U) (U := U.calling g mk a) (Vm.Alike.refl U.vm) h.1, kx_N.same (u := U) (U := U.calling g mk a) rfl h.2⟩
/-- a start that reads -/
def kx_Pr (G : va_G) (cI cZ : ClassId) (W : va_W) (av : List Value) : Array Value → State → Prop := fun v U => v = av.toArray ∧ va_P G vwCl W U.heap ∧ kx_K G cI cZ U
/-- a start that writes -/
def kx_Pw (G : va_G) (cI cZ : ClassId) (W : va_W) (sz : Nat) (av : List Value) : Array Value → State → Prop := fun v U => v = av.toArray ∧ U.heap.size = sz ∧ va_P G vwCl W U.heap ∧ va_D (fun _ => True) W ∧ kx_K G cI cZ U
/-- a start of numbers alone -/
def kx_Ps (av : List Value) : Array Value → State → Prop := fun v _ => v = av.toArray
theorem kx_Pr.blind {G : va_G} {cI cZ : ClassId} {W : va_W} {av : List Value} : FrameBlind (kx_Pr G cI cZ W av) := fun _ _ _ _ h => ⟨h.1, h.2.1, h.2.2.call⟩
theorem kx_Pw.blind {G : va_G} {cI cZ : ClassId} {W : va_W} {sz : Nat} {av : List Value} : FrameBlind (kx_Pw G cI cZ W sz av) := fun _ _ _ _ h => ⟨h.1, h.2.1, h.2.2.1, h.2.2.2.1, h.2.2.2.2.call⟩
theorem kx_Ps.blind {av : List Value} : FrameBlind (kx_Ps av) := fun _ _ _ _ h => h
theorem kx_preS {s : State} {H : Heap} {As : List Value} : PreS s H (kx_Ps As) As := ⟨kx_Ps.blind, fun _ _ _ => rfl⟩
theorem kx_preR {G : va_G} {cI cZ : ClassId} {Wc : va_W} {s : State} {H : Heap} {b ci : Nat} {fs As : List Value} {C : String} {T : u_T} {N : Nat} (hK : kx_K G cI cZ s) (hPc : va_P G vwCl Wc H) (q0 : Nat) (hrec : Wc[q0]? = some (b, .inr (ci, fs))) (hc : vwCl[ci]? = some (C, T, N)) : PreV s H C b (kx_Pr G cI cZ Wc (.ref b :: As)) As := ⟨kx_Pr.blind, va_recv hK.1 hPc hc hrec, fun U hU hW => ⟨rfl, by rw [hU]; exact hPc, hK.warm hW⟩⟩
theorem kx_preW {G : va_G} {cI cZ : ClassId} {Wc : va_W} {A : Nat → Prop} {s : State} {H : Heap} {b ci : Nat} {fs As : List Value} {C : String} {T : u_T} {N : Nat} (hK : kx_K G cI cZ s) (hPc : va_P G vwCl Wc H) (hDc : va_D A Wc) (q0 : Nat) (hrec : Wc[q0]? = some (b, .inr (ci, fs))) (hc : vwCl[ci]? = some (C, T, N)) : PreV s H C b (kx_Pw G cI cZ Wc H.size (.ref b :: As)) As := ⟨kx_Pw.blind, va_recv hK.1 hPc hc hrec, fun U hU hW => ⟨rfl, by rw [hU], by rw [hU]; exact hPc, hDc.weaken (fun _ _ _ _ => trivial), hK.warm hW⟩⟩
theorem kx_preI {G : va_G} {cI cZ : ClassId} {Wc : va_W} {A : Nat → Prop} {s : State} {H : Heap} {As : List Value} (hK : kx_K G cI cZ s) (hPc : va_P G vwCl Wc H) (hDc : va_D A Wc) : PreS s H (kx_Pw G cI cZ Wc H.size As) As := ⟨kx_Pw.blind, fun U hU hW => ⟨rfl, by rw [hU], by rw [hU]; exact hPc, hDc.weaken (fun _ _ _ _ => trivial), hK.warm hW⟩⟩
/-- a long answer, nothing written -/
def kx_QL (r : Int64) : Array Value → State → Outcome → State → Prop := fun _ st o t => o = .returned (some (.long r)) ∧ t.heap = st.heap
section KXA
variable {p : Program} {l : Launch} {e : Env} {R : Room} {s : State} {m : MethodId} {args : Array Value} {below : List Frame} {meth : Method} {c : Code} {H : Heap} {locs : List Loc} {cells slots : Nat} {Q : State → Prop}
variable {cc : ByteArray} {pc : Nat} {ls : Array Slot} {rest st0 : List Value} {G : va_G} {A A0 : Nat → Prop} {ws wc : va_W} {H0 : Heap} {a : Array Value}
theorem kx_run {mc ms : Nat} {g : JFrame} {Qa : State → Outcome → State → Prop} {free : Addr → Prop} (h : va_Run p l e R s m args below meth c H locs cells slots mc ms g rest Qa free) : CallRun p l e R s m args below meth c H locs cells slots mc ms g rest Qa free := by
  intro T hT X
  obtain ⟨v, st₀, t, T', L, h1, h2, h3, h4, -, h6, h7⟩ := h T hT X
  exact ⟨v, st₀, t, T', L, h1, h2, h3, h4, h6, h7⟩
/-- a call that reads and answers an int -/
theorem kx_ri {r : Int32} (hr : va_Run p l e R s m args below meth c H locs cells slots 0 0 (F0 m pc ls st0) rest (QcRead r a) (fun _ => False)) (kk : W p l e R s m args below meth c H locs cells slots Q (F0 m (pc + 3) ls (.int r :: rest))) : W p l e R s m args below meth c H locs cells slots Q (F0 m pc ls st0) := W.callR (kx_run hr) kk
theorem kx_rl {r : Int64} (hr : va_Run p l e R s m args below meth c H locs cells slots 0 0 (F0 m pc ls st0) rest (kx_QL r a) (fun _ => False)) (kk : W p l e R s m args below meth c H locs cells slots Q (F0 m (pc + 3) ls (.long r :: rest))) : W p l e R s m args below meth c H locs cells slots Q (F0 m pc ls st0) := by
  intro T hT X
  obtain ⟨v, st₀, t, T', L, h0, X', hL, e1, -, ⟨hv, hh⟩, st⟩ := hr T hT X
  cases hv
  obtain ⟨t2, a1, b1⟩ := kk T' (by rw [e1, hh, h0]) (Stand.forget X' (fun q h => (hL q h).elim))
  exact ⟨t2, st t2 a1, b1⟩
/-- the callee's cells, put back at their places -/
def kx_put : va_W → List Nat → va_W → va_W
  | ws, i :: is, x :: xs => kx_put (ws.set i x) is xs
  | ws, _, _ => ws
theorem kx_put_len : ∀ (is : List Nat) (ws w1 : va_W), (kx_put ws is w1).length = ws.length
  | [], ws, w1 => by cases w1 <;> rfl
  | i :: is, ws, [] => rfl
  | i :: is, ws, x :: xs => by
    show (kx_put (ws.set i x) is xs).length = ws.length
    rw [kx_put_len is, List.length_set]
theorem kx_put_out : ∀ (is : List Nat) (ws w1 : va_W) (k : Nat), k ∉ is → (kx_put ws is w1)[k]? = ws[k]?
  | [], ws, w1, k, _ => by cases w1 <;> rfl
  | i :: is, ws, [], k, _ => rfl
  | i :: is, ws, x :: xs, k, h => by
    show (kx_put (ws.set i x) is xs)[k]? = ws[k]?
    rw [kx_put_out is _ xs k (fun q => h (List.mem_cons_of_mem _ q)), List.getElem?_set_ne (fun q => h (by rw [q]; exact List.mem_cons_self))]
theorem kx_put_in : ∀ (is : List Nat) (ws w1 : va_W), va_nd is = true → is.length = w1.length → (∀ i ∈ is, i < ws.length) → ∀ (j i : Nat), is[j]? = some i → (kx_put ws is w1)[i]? = w1[j]?
  | [], ws, w1, _, _, _, j, i, h => by simp at h
  | i0 :: is, ws, [], _, hl, _, j, i, h => by simp at hl
  | i0 :: is, ws, x :: xs, hn, hl, hb, j, i, h => by
    simp only [va_nd, Bool.and_eq_true, decide_eq_true_eq] at hn
    show (kx_put (ws.set i0 x) is xs)[i]? = (x :: xs)[j]?
    cases j with
    | zero =>
      rw [List.getElem?_cons_zero] at h
      cases h
      rw [kx_put_out is _ xs i0 hn.1, List.getElem?_cons_zero, List.getElem?_set_self (hb i0 List.mem_cons_self)]
    | succ j =>
      rw [List.getElem?_cons_succ] at h
      rw [List.getElem?_cons_succ]
      exact kx_put_in is _ xs hn.2 (by simpa using hl) (fun i hi => by rw [List.length_set]; exact hb i (List.mem_cons_of_mem _ hi)) j i h
theorem kx_adr {ws w2 : va_W} (hl : w2.map Prod.fst = ws.map Prod.fst) (k : Nat) (q : Nat × va_E) (h : w2[k]? = some q) : ∃ q0, ws[k]? = some q0 ∧ q0.1 = q.1 := by
  have h1 : (w2.map Prod.fst)[k]? = some q.1 := by rw [List.getElem?_map, h]; rfl
  rw [hl, List.getElem?_map] at h1
  cases hq : ws[k]? with
  | none => rw [hq] at h1; cases h1
  | some q0 => rw [hq] at h1; exact ⟨q0, rfl, Option.some.inj h1⟩
theorem kx_D {ws w2 : va_W} (hD : va_D A ws) (key : ∀ (k : Nat) (q : Nat × va_E), w2[k]? = some q → ∃ q0, ws[k]? = some q0 ∧ q0.1 = q.1) : va_D A w2 := by
  refine ⟨fun i j x y hi hj hxy => ?_, fun k q hk => ?_⟩
  · obtain ⟨x0, h1, h2⟩ := key i x hi
    obtain ⟨y0, h3, h4⟩ := key j y hj
    exact hD.1 i j x0 y0 h1 h3 (h2.trans (hxy.trans h4.symm))
  · obtain ⟨q0, h1, h2⟩ := key k q hk
    rw [← h2]
    exact hD.2 k q0 h1
/-- behind a call that wrote: the callee's cells as it left them, the others as they were, each at its place -/
theorem kx_joinW {w1 : va_W} {H1 : Heap} (hP : va_P G vwCl ws H) (hD : va_D A0 ws) (isC : List Nat) (hC : isC.map (fun i => ws[i]?) = wc.map some) (hnd : va_nd isC = true) (had : w1.map Prod.fst = wc.map Prod.fst)
    (hk : ∀ q : Nat, q < H.size → ¬ va_A wc H.size q → H1[q]? = H[q]?) (hP1 : va_P G vwCl w1 H1) : va_P G vwCl (kx_put ws isC w1) H1 ∧ va_D A0 (kx_put ws isC w1) := by
  have at' : ∀ (k i : Nat), isC[k]? = some i → ∃ q, wc[k]? = some q ∧ ws[i]? = some q := by
    intro k i hi
    have h1 : (isC.map (fun i => ws[i]?))[k]? = some (ws[i]?) := by rw [List.getElem?_map, hi]; rfl
    rw [hC, List.getElem?_map] at h1
    cases hq : wc[k]? with
    | none => rw [hq] at h1; cases h1
    | some q => rw [hq] at h1; exact ⟨q, rfl, (Option.some.inj h1).symm⟩
  have hlen : isC.length = w1.length := by
    have h1 := congrArg List.length hC
    have h2 := congrArg List.length had
    simp only [List.length_map] at h1 h2
    omega
  have hb : ∀ i ∈ isC, i < ws.length := by
    intro i hi
    obtain ⟨k, hk⟩ := List.getElem?_of_mem hi
    obtain ⟨q, -, h2⟩ := at' k i hk
    exact (List.getElem?_eq_some_iff.mp h2).1
  have key : ∀ (k : Nat) (q : Nat × va_E), (kx_put ws isC w1)[k]? = some q → (∃ j : Nat, isC[j]? = some k ∧ w1[j]? = some q) ∨ (k ∉ isC ∧ ws[k]? = some q) := by
    intro k q hq
    by_cases hm : k ∈ isC
    · obtain ⟨j, hj⟩ := List.getElem?_of_mem hm
      rw [kx_put_in isC ws w1 hnd hlen hb j k hj] at hq
      exact Or.inl ⟨j, hj, hq⟩
    · rw [kx_put_out isC ws w1 k hm] at hq
      exact Or.inr ⟨hm, hq⟩
  refine ⟨fun k q hq => ?_, kx_D hD (fun k q hq => ?_)⟩
  · rcases key k q hq with ⟨j, h1, h2⟩ | ⟨h1, h2⟩
    · exact hP1 j q h2
    · refine (hP k q h2).kept (hk q.1 (hP k q h2).lt (fun h => ?_))
      rcases h with ⟨k2, e2, h⟩ | h
      · have hlt : k2 < isC.length := by
          have h3 := congrArg List.length hC
          simp only [List.length_map] at h3
          rw [h3]
          exact (List.getElem?_eq_some_iff.mp h).1
        have hj : isC[k2]? = some isC[k2] := List.getElem?_eq_getElem hlt
        obtain ⟨q3, h4, h5⟩ := at' k2 _ hj
        rw [h] at h4
        cases h4
        have := hD.1 k _ q (q.1, e2) h2 h5 rfl
        rw [this] at h1
        exact h1 (List.mem_of_getElem? hj)
      · exact absurd (hP k q h2).lt (by omega)
  · rcases key k q hq with ⟨j, h1, h2⟩ | ⟨h1, h2⟩
    · obtain ⟨q3, h4, h5⟩ := at' j k h1
      obtain ⟨q0, h6, h7⟩ := kx_adr had j q h2
      rw [h4] at h6
      cases h6
      exact ⟨_, h5, h7⟩
    · exact ⟨q, h2, rfl⟩
/-! a part of the world that stands in one piece: ahead of it pre, behind it pst -/
theorem kx_P3 {pre pst : va_W} (h : va_P G vwCl (pre ++ (wc ++ pst)) H) : va_P G vwCl pre H ∧ va_P G vwCl wc H ∧ va_P G vwCl pst H := by
  refine ⟨fun k q hq => ?_, fun k q hq => ?_, fun k q hq => ?_⟩
  · have hl := (List.getElem?_eq_some_iff.mp hq).1
    exact h k q (by rw [List.getElem?_append_left hl]; exact hq)
  · have hl := (List.getElem?_eq_some_iff.mp hq).1
    exact h (pre.length + k) q (by rw [List.getElem?_append_right (by omega), Nat.add_sub_cancel_left, List.getElem?_append_left hl]; exact hq)
  · exact h (pre.length + (wc.length + k)) q (by rw [List.getElem?_append_right (by omega), Nat.add_sub_cancel_left, List.getElem?_append_right (by omega), Nat.add_sub_cancel_left]; exact hq)
theorem kx_mid {pre pst : va_W} (h : va_P G vwCl (pre ++ (wc ++ pst)) H) : va_P G vwCl wc H := (kx_P3 h).2.1
theorem kx_at3 {pre pst : va_W} (k : Nat) (q : Nat × va_E) (h : (pre ++ (wc ++ pst))[k]? = some q) : pre[k]? = some q ∧ k < pre.length ∨ (pre.length ≤ k ∧ k < pre.length + wc.length ∧ wc[k - pre.length]? = some q) ∨ (pre.length + wc.length ≤ k ∧ pst[k - pre.length - wc.length]? = some q) := by
  by_cases h1 : k < pre.length
  · rw [List.getElem?_append_left h1] at h
    exact Or.inl ⟨h, h1⟩
  · rw [List.getElem?_append_right (by omega)] at h
    by_cases h2 : k - pre.length < wc.length
    · rw [List.getElem?_append_left h2] at h
      exact Or.inr (Or.inl ⟨by omega, by omega, h⟩)
    · rw [List.getElem?_append_right (by omega)] at h
      exact Or.inr (Or.inr ⟨by omega, h⟩)
theorem kx_midD {pre pst : va_W} (h : va_D A (pre ++ (wc ++ pst))) : va_D A wc := by
  have key : ∀ (k : Nat) (q : Nat × va_E), wc[k]? = some q → (pre ++ (wc ++ pst))[pre.length + k]? = some q := by
    intro k q hq
    have hl := (List.getElem?_eq_some_iff.mp hq).1
    rw [List.getElem?_append_right (by omega), Nat.add_sub_cancel_left, List.getElem?_append_left hl]
    exact hq
  refine ⟨fun i j x y hi hj hxy => ?_, fun k q hq => h.2 _ q (key k q hq)⟩
  have := h.1 _ _ x y (key i x hi) (key j y hj) hxy
  omega
theorem kx_midF {pre pst : va_W} (hD : va_D A0 (pre ++ (wc ++ pst))) (hS : va_S A0 H0 H locs) (hA : ∀ q, H0.size ≤ q → A0 q) : ∀ q, va_A wc H.size q → A0 q := by
  intro q h
  rcases h with ⟨k, e, h⟩ | h
  · exact (kx_midD hD).2 k (q, e) h
  · exact hA q (Nat.le_trans hS.1 h)
theorem kx_join3 {pre pst w1 : va_W} {H1 : Heap} (hP : va_P G vwCl (pre ++ (wc ++ pst)) H) (hD : va_D A0 (pre ++ (wc ++ pst))) (had : w1.map Prod.fst = wc.map Prod.fst)
    (hk : ∀ q : Nat, q < H.size → ¬ va_A wc H.size q → H1[q]? = H[q]?) (hP1 : va_P G vwCl w1 H1) : va_P G vwCl (pre ++ (w1 ++ pst)) H1 ∧ va_D A0 (pre ++ (w1 ++ pst)) := by
  have hlen : w1.length = wc.length := by
    have := congrArg List.length had
    simpa using this
  have hin : ∀ (k : Nat) (q : Nat × va_E), wc[k]? = some q → (pre ++ (wc ++ pst))[pre.length + k]? = some q := by
    intro k q hq
    have hl := (List.getElem?_eq_some_iff.mp hq).1
    rw [List.getElem?_append_right (by omega), Nat.add_sub_cancel_left, List.getElem?_append_left hl]
    exact hq
  have old : ∀ (k : Nat) (q : Nat × va_E), (pre ++ (wc ++ pst))[k]? = some q → (k < pre.length ∨ pre.length + wc.length ≤ k) → H1[q.1]? = H[q.1]? := by
    intro k q hq hout
    refine hk q.1 (hP k q hq).lt (fun h => ?_)
    rcases h with ⟨k2, e2, h⟩ | h
    · have hl := (List.getElem?_eq_some_iff.mp h).1
      have := hD.1 k _ q (q.1, e2) hq (hin k2 _ h) rfl
      omega
    · exact absurd (hP k q hq).lt (by omega)
  have key : ∀ (k : Nat) (q : Nat × va_E), (pre ++ (w1 ++ pst))[k]? = some q → ((∃ j, w1[j]? = some q ∧ k = pre.length + j) ∨ ((pre ++ (wc ++ pst))[k]? = some q ∧ (k < pre.length ∨ pre.length + wc.length ≤ k))) := by
    intro k q hq
    rcases kx_at3 k q hq with ⟨h1, h2⟩ | ⟨h1, h2, h3⟩ | ⟨h1, h2⟩
    · exact Or.inr ⟨by rw [List.getElem?_append_left h2]; exact h1, Or.inl h2⟩
    · exact Or.inl ⟨_, h3, by omega⟩
    · refine Or.inr ⟨?_, Or.inr (by omega)⟩
      rw [List.getElem?_append_right (by omega), List.getElem?_append_right (by omega)]
      rw [hlen] at h2
      exact h2
  refine ⟨fun k q hq => ?_, kx_D hD (fun k q hq => ?_)⟩
  · rcases key k q hq with ⟨j, h1, h2⟩ | ⟨h1, h2⟩
    · exact hP1 j q h1
    · exact (hP k q h1).kept (old k q h1 h2)
  · rcases key k q hq with ⟨j, h1, h2⟩ | ⟨h1, h2⟩
    · obtain ⟨q0, h3, h4⟩ := kx_adr had j q h1
      exact ⟨q0, by rw [h2]; exact hin j q0 h3, h4⟩
    · exact ⟨q, h1, rfl⟩
theorem kx_cut {ws wc : va_W} {a n : Nat} (h : (ws.drop a).take n = wc) : ws = ws.take a ++ (wc ++ (ws.drop a).drop n) := by
  rw [← h, List.take_append_drop, List.take_append_drop]
/-- the cells from place a on, n of them -/
theorem kx_sub (a n : Nat) (hP : va_P G vwCl ws H) (h : (ws.drop a).take n = wc) : va_P G vwCl wc H := by
  rw [kx_cut h] at hP
  exact kx_mid hP
theorem kx_subD (a n : Nat) (hD : va_D A ws) (h : (ws.drop a).take n = wc) : va_D A wc := by
  rw [kx_cut h] at hD
  exact kx_midD hD
/-- a call that writes -/
theorem kx_wi {S : Type} {post : Int32 → S → Prop} {Wf : S → va_W}
    (hr : va_Run p l e R s m args below meth c H locs cells slots 0 0 (F0 m pc ls st0) rest (va_Qi post (fun u t => va_P G vwCl (Wf u) t.heap) (va_A wc H.size) a) (va_A wc H.size))
    (hP : va_P G vwCl ws H) (hD : va_D A0 ws) (hS : va_S A0 H0 H locs) (hA : ∀ q, H0.size ≤ q → A0 q) (a0 n0 : Nat) (hC : (ws.drop a0).take n0 = wc) (had : ∀ u, (Wf u).map Prod.fst = wc.map Prod.fst)
    (kk : ∀ (r : Int32) (u : S) (H1 : Heap) (locs1 : List Loc), post r u → va_P G vwCl (ws.take a0 ++ (Wf u ++ (ws.drop a0).drop n0)) H1 → va_D A0 (ws.take a0 ++ (Wf u ++ (ws.drop a0).drop n0)) → va_S A0 H0 H1 locs1 → W p l e R s m args below meth c H1 locs1 cells slots Q (F0 m (pc + 3) ls (.int r :: rest))) : W p l e R s m args below meth c H locs cells slots Q (F0 m pc ls st0) := by
  have hP' := hP
  have hD' := hD
  rw [kx_cut hC] at hP' hD'
  exact va_calli hr hS (fun q _ h => kx_midF hD' hS hA q h) (kx_midF hD' hS hA) (fun r u t H1 locs1 ht hvm hw hB hz hk hS1 => by
    obtain ⟨h8, h9⟩ := kx_join3 hP' hD' (had u) hk (by rw [← ht]; exact hB)
    exact kk r u H1 locs1 hw h8 h9 hS1)
/-- a call that writes -/
theorem kx_wl {S : Type} {post : Int64 → S → Prop} {Wf : S → va_W}
    (hr : va_Run p l e R s m args below meth c H locs cells slots 0 0 (F0 m pc ls st0) rest (va_Ql post (fun u t => va_P G vwCl (Wf u) t.heap) (va_A wc H.size) a) (va_A wc H.size))
    (hP : va_P G vwCl ws H) (hD : va_D A0 ws) (hS : va_S A0 H0 H locs) (hA : ∀ q, H0.size ≤ q → A0 q) (a0 n0 : Nat) (hC : (ws.drop a0).take n0 = wc) (had : ∀ u, (Wf u).map Prod.fst = wc.map Prod.fst)
    (kk : ∀ (r : Int64) (u : S) (H1 : Heap) (locs1 : List Loc), post r u → va_P G vwCl (ws.take a0 ++ (Wf u ++ (ws.drop a0).drop n0)) H1 → va_D A0 (ws.take a0 ++ (Wf u ++ (ws.drop a0).drop n0)) → va_S A0 H0 H1 locs1 → W p l e R s m args below meth c H1 locs1 cells slots Q (F0 m (pc + 3) ls (.long r :: rest))) : W p l e R s m args below meth c H locs cells slots Q (F0 m pc ls st0) := by
  have hP' := hP
  have hD' := hD
  rw [kx_cut hC] at hP' hD'
  exact va_calll hr hS (fun q _ h => kx_midF hD' hS hA q h) (kx_midF hD' hS hA) (fun r u t H1 locs1 ht hvm hw hB hz hk hS1 => by
    obtain ⟨h8, h9⟩ := kx_join3 hP' hD' (had u) hk (by rw [← ht]; exact hB)
    exact kk r u H1 locs1 hw h8 h9 hS1)
/-- a call that writes -/
theorem kx_wv {S : Type} {post : S → Prop} {Wf : S → va_W}
    (hr : va_Run p l e R s m args below meth c H locs cells slots 0 0 (F0 m pc ls st0) rest (va_Qv post (fun u t => va_P G vwCl (Wf u) t.heap) (va_A wc H.size) a) (va_A wc H.size))
    (hP : va_P G vwCl ws H) (hD : va_D A0 ws) (hS : va_S A0 H0 H locs) (hA : ∀ q, H0.size ≤ q → A0 q) (a0 n0 : Nat) (hC : (ws.drop a0).take n0 = wc) (had : ∀ u, (Wf u).map Prod.fst = wc.map Prod.fst)
    (kk : ∀ (u : S) (H1 : Heap) (locs1 : List Loc), post u → va_P G vwCl (ws.take a0 ++ (Wf u ++ (ws.drop a0).drop n0)) H1 → va_D A0 (ws.take a0 ++ (Wf u ++ (ws.drop a0).drop n0)) → va_S A0 H0 H1 locs1 → W p l e R s m args below meth c H1 locs1 cells slots Q (F0 m (pc + 3) ls (rest))) : W p l e R s m args below meth c H locs cells slots Q (F0 m pc ls st0) := by
  have hP' := hP
  have hD' := hD
  rw [kx_cut hC] at hP' hD'
  exact va_callv hr hS (fun q _ h => kx_midF hD' hS hA q h) (kx_midF hD' hS hA) (fun u t H1 locs1 ht hvm hw hB hz hk hS1 => by
    obtain ⟨h8, h9⟩ := kx_join3 hP' hD' (had u) hk (by rw [← ht]; exact hB)
    exact kk u H1 locs1 hw h8 h9 hS1)
/-! numbers: counters are Nat -/
theorem kx_iaddN (hx : p.tables.exec = Jvm.exec) (hb : c.code = cc) (i j : Nat) (hdg : decode cc pc = .ok (.iadd, 1)) (k : W p l e R s m args below meth c H locs cells slots Q (F0 m (pc + 1) ls (.int (nI (i + j)) :: rest))) : W p l e R s m args below meth c H locs cells slots Q (F0 m pc ls (.int (nI j) :: .int (nI i) :: rest)) :=
  lv_iadd hx hb hdg (by rw [nI_add]; exact k)
theorem kx_imulN (hx : p.tables.exec = Jvm.exec) (hb : c.code = cc) (i j : Nat) (hdg : decode cc pc = .ok (.imul, 1)) (k : W p l e R s m args below meth c H locs cells slots Q (F0 m (pc + 1) ls (.int (nI (i * j)) :: rest))) : W p l e R s m args below meth c H locs cells slots Q (F0 m pc ls (.int (nI j) :: .int (nI i) :: rest)) :=
  lv_imul hx hb hdg (by rw [pk_mul]; exact k)
theorem kx_isubN (hx : p.tables.exec = Jvm.exec) (hb : c.code = cc) (i j : Nat) (h : j ≤ i) (hdg : decode cc pc = .ok (.isub, 1)) (k : W p l e R s m args below meth c H locs cells slots Q (F0 m (pc + 1) ls (.int (nI (i - j)) :: rest))) : W p l e R s m args below meth c H locs cells slots Q (F0 m pc ls (.int (nI j) :: .int (nI i) :: rest)) :=
  lv_isub hx hb hdg (by rw [pk_sub h]; exact k)
theorem kx_ialdN {D : va_G} {cl : List vw_C} {tys : List (ClassId × FieldType)} {q : Nat} (hx : p.tables.exec = Jvm.exec) (hb : c.code = cc) (hK : va_K D cl tys s) (hP : va_P D cl ws H) (q0 : Nat) {cA : ClassId} {n : Nat} {f : Nat → Int32} (ha : ws[q0]? = some (q, .inl (cA, n, .inl f))) (ht : tys[0]? = some (cA, .int)) (i : Nat) (hi : i < n) (hn : n < 2 ^ 31) (hdg : decode cc pc = .ok (.iaload, 1))
    (kk : W p l e R s m args below meth c H locs cells slots Q (F0 m (pc + 1) ls (.int (f i) :: rest))) : W p l e R s m args below meth c H locs cells slots Q (F0 m pc ls (.int (nI i) :: .ref q :: rest)) :=
  va_iald hx hb hK hP q0 0 ha ht (vp_in_nI hi hn) hdg (by rw [nI_clamp (by omega)]; exact kk)
theorem kx_iastN {D : va_G} {cl : List vw_C} {tys : List (ClassId × FieldType)} {q : Nat} (hx : p.tables.exec = Jvm.exec) (hb : c.code = cc) (hK : va_K D cl tys s) (hP : va_P D cl ws H) (hD : va_D A ws) (hS : va_S A H0 H locs) (q0 : Nat) {cA : ClassId} {n : Nat} {f : Nat → Int32} (ha : ws[q0]? = some (q, .inl (cA, n, .inl f))) (ht : tys[0]? = some (cA, .int)) {x : Int32} (i : Nat) (hi : i < n) (hn : n < 2 ^ 31) (hdg : decode cc pc = .ok (.iastore, 1))
    (kk : ∀ (H1 : Heap) (locs1 : List Loc), va_P D cl (ws.set q0 (q, .inl (cA, n, .inl (upd f i x)))) H1 → va_D A (ws.set q0 (q, .inl (cA, n, .inl (upd f i x)))) → va_S A H0 H1 locs1 → W p l e R s m args below meth c H1 locs1 cells slots Q (F0 m (pc + 1) ls rest)) : W p l e R s m args below meth c H locs cells slots Q (F0 m pc ls (.int x :: .int (nI i) :: .ref q :: rest)) :=
  va_iast hx hb hK hP hD hS q0 0 ha ht (vp_in_nI hi hn) hdg (by rw [nI_clamp (by omega)]; exact kk)
theorem kx_zaldN {D : va_G} {cl : List vw_C} {tys : List (ClassId × FieldType)} {q : Nat} (hx : p.tables.exec = Jvm.exec) (hb : c.code = cc) (hK : va_K D cl tys s) (hP : va_P D cl ws H) (q0 : Nat) {cA : ClassId} {n : Nat} {f : Nat → Int32} (ha : ws[q0]? = some (q, .inl (cA, n, .inl f))) (ht : tys[1]? = some (cA, .boolean)) (i : Nat) (hi : i < n) (hn : n < 2 ^ 31) (hdg : decode cc pc = .ok (.baload, 1))
    (kk : W p l e R s m args below meth c H locs cells slots Q (F0 m (pc + 1) ls (.int (f i) :: rest))) : W p l e R s m args below meth c H locs cells slots Q (F0 m pc ls (.int (nI i) :: .ref q :: rest)) :=
  va_zald hx hb hK hP q0 1 ha ht (vp_in_nI hi hn) hdg (by rw [nI_clamp (by omega)]; exact kk)
theorem kx_zastN {D : va_G} {cl : List vw_C} {tys : List (ClassId × FieldType)} {q : Nat} (hx : p.tables.exec = Jvm.exec) (hb : c.code = cc) (hK : va_K D cl tys s) (hP : va_P D cl ws H) (hD : va_D A ws) (hS : va_S A H0 H locs) (q0 : Nat) {cA : ClassId} {n : Nat} {f : Nat → Int32} (ha : ws[q0]? = some (q, .inl (cA, n, .inl f))) (ht : tys[1]? = some (cA, .boolean)) {x : Int32} (hz : vp_nar .boolean x = x) (i : Nat) (hi : i < n) (hn : n < 2 ^ 31) (hdg : decode cc pc = .ok (.bastore, 1))
    (kk : ∀ (H1 : Heap) (locs1 : List Loc), va_P D cl (ws.set q0 (q, .inl (cA, n, .inl (upd f i x)))) H1 → va_D A (ws.set q0 (q, .inl (cA, n, .inl (upd f i x)))) → va_S A H0 H1 locs1 → W p l e R s m args below meth c H1 locs1 cells slots Q (F0 m (pc + 1) ls rest)) : W p l e R s m args below meth c H locs cells slots Q (F0 m pc ls (.int x :: .int (nI i) :: .ref q :: rest)) :=
  va_zast hx hb hK hP hD hS q0 1 ha ht (vp_in_nI hi hn) hdg (by rw [nI_clamp (by omega), hz]; exact kk)
theorem kx_geN (hx : p.tables.exec = Jvm.exec) (hb : c.code = cc) (i j : Nat) (h1 : i < 2 ^ 31) (h2 : j < 2 ^ 31) {off : Int} {tgt : Nat} (hdg : decode cc pc = .ok (.if_icmp .ge off, 3)) (ht : (pc : Int) + off = (tgt : Int))
    (kt : j ≤ i → W p l e R s m args below meth c H locs cells slots Q (F0 m tgt ls rest)) (kf : i < j → W p l e R s m args below meth c H locs cells slots Q (F0 m (pc + 3) ls rest)) : W p l e R s m args below meth c H locs cells slots Q (F0 m pc ls (.int (nI j) :: .int (nI i) :: rest)) :=
  lv_icmp_ge hx hb hdg ht (fun h => kt ((nI_leI h2 h1).mp h)) (fun h => kf (Nat.not_le.mp (fun q => h ((nI_leI h2 h1).mpr q))))
theorem kx_ltN (hx : p.tables.exec = Jvm.exec) (hb : c.code = cc) (i j : Nat) (h1 : i < 2 ^ 31) (h2 : j < 2 ^ 31) {off : Int} {tgt : Nat} (hdg : decode cc pc = .ok (.if_icmp .lt off, 3)) (ht : (pc : Int) + off = (tgt : Int))
    (kt : i < j → W p l e R s m args below meth c H locs cells slots Q (F0 m tgt ls rest)) (kf : j ≤ i → W p l e R s m args below meth c H locs cells slots Q (F0 m (pc + 3) ls rest)) : W p l e R s m args below meth c H locs cells slots Q (F0 m pc ls (.int (nI j) :: .int (nI i) :: rest)) :=
  lv_icmp_lt hx hb hdg ht (fun h => kt ((nI_ltI h1 h2).mp h)) (fun h => kf (Nat.not_lt.mp (fun q => h ((nI_ltI h1 h2).mpr q))))
theorem kx_gtN (hx : p.tables.exec = Jvm.exec) (hb : c.code = cc) (i j : Nat) (h1 : i < 2 ^ 31) (h2 : j < 2 ^ 31) {off : Int} {tgt : Nat} (hdg : decode cc pc = .ok (.if_icmp .gt off, 3)) (ht : (pc : Int) + off = (tgt : Int))
    (kt : j < i → W p l e R s m args below meth c H locs cells slots Q (F0 m tgt ls rest)) (kf : i ≤ j → W p l e R s m args below meth c H locs cells slots Q (F0 m (pc + 3) ls rest)) : W p l e R s m args below meth c H locs cells slots Q (F0 m pc ls (.int (nI j) :: .int (nI i) :: rest)) :=
  lv_icmp_gt hx hb hdg ht (fun h => kt ((nI_ltI h2 h1).mp h)) (fun h => kf (Nat.not_lt.mp (fun q => h ((nI_ltI h2 h1).mpr q))))
theorem kx_leN (hx : p.tables.exec = Jvm.exec) (hb : c.code = cc) (i j : Nat) (h1 : i < 2 ^ 31) (h2 : j < 2 ^ 31) {off : Int} {tgt : Nat} (hdg : decode cc pc = .ok (.if_icmp .le off, 3)) (ht : (pc : Int) + off = (tgt : Int))
    (kt : i ≤ j → W p l e R s m args below meth c H locs cells slots Q (F0 m tgt ls rest)) (kf : j < i → W p l e R s m args below meth c H locs cells slots Q (F0 m (pc + 3) ls rest)) : W p l e R s m args below meth c H locs cells slots Q (F0 m pc ls (.int (nI j) :: .int (nI i) :: rest)) :=
  lv_icmp_le hx hb hdg ht (fun h => kt ((nI_leI h1 h2).mp h)) (fun h => kf (Nat.not_le.mp (fun q => h ((nI_leI h1 h2).mpr q))))
theorem kx_eqN (hx : p.tables.exec = Jvm.exec) (hb : c.code = cc) (i j : Nat) (h1 : i < 2 ^ 31) (h2 : j < 2 ^ 31) {off : Int} {tgt : Nat} (hdg : decode cc pc = .ok (.if_icmp .eq off, 3)) (ht : (pc : Int) + off = (tgt : Int))
    (kt : i = j → W p l e R s m args below meth c H locs cells slots Q (F0 m tgt ls rest)) (kf : i ≠ j → W p l e R s m args below meth c H locs cells slots Q (F0 m (pc + 3) ls rest)) : W p l e R s m args below meth c H locs cells slots Q (F0 m pc ls (.int (nI j) :: .int (nI i) :: rest)) :=
  lv_icmp_eq hx hb hdg ht (fun h => kt ((nI_eq h1 h2).mp h)) (fun h => kf (fun q => h ((nI_eq h1 h2).mpr q)))
theorem kx_neN (hx : p.tables.exec = Jvm.exec) (hb : c.code = cc) (i j : Nat) (h1 : i < 2 ^ 31) (h2 : j < 2 ^ 31) {off : Int} {tgt : Nat} (hdg : decode cc pc = .ok (.if_icmp .ne off, 3)) (ht : (pc : Int) + off = (tgt : Int))
    (kt : i ≠ j → W p l e R s m args below meth c H locs cells slots Q (F0 m tgt ls rest)) (kf : i = j → W p l e R s m args below meth c H locs cells slots Q (F0 m (pc + 3) ls rest)) : W p l e R s m args below meth c H locs cells slots Q (F0 m pc ls (.int (nI j) :: .int (nI i) :: rest)) :=
  lv_icmp_ne hx hb hdg ht (fun h => kt (fun q => h ((nI_eq h1 h2).mpr q))) (fun h => kf ((nI_eq h1 h2).mp h))
/-! truth values -/
def kb (P : Prop) [Decidable P] : Int32 := if P then 1 else 0
theorem kb_t {P : Prop} [Decidable P] (h : P) : kb P = 1 := if_pos h
theorem kb_f {P : Prop} [Decidable P] (h : ¬ P) : kb P = 0 := if_neg h
theorem kb_n (P : Prop) [Decidable P] : narrow .boolean (.int (kb P)) = .int (kb P) := by
  by_cases h : P
  · rw [kb_t h]; rfl
  · rw [kb_f h]; rfl
theorem kb_c {P P2 : Prop} [Decidable P] [Decidable P2] (h : P ↔ P2) : kb P = kb P2 := by
  by_cases q : P
  · rw [kb_t q, kb_t (h.mp q)]
  · rw [kb_f q, kb_f (fun z => q (h.mpr z))]
theorem kx_ifeqB (hx : p.tables.exec = Jvm.exec) (hb : c.code = cc) (P : Prop) [Decidable P] {off : Int} {tgt : Nat} (hdg : decode cc pc = .ok (.ifCond .eq off, 3)) (ht : (pc : Int) + off = (tgt : Int))
    (kt : ¬ P → W p l e R s m args below meth c H locs cells slots Q (F0 m tgt ls rest)) (kf : P → W p l e R s m args below meth c H locs cells slots Q (F0 m (pc + 3) ls rest)) : W p l e R s m args below meth c H locs cells slots Q (F0 m pc ls (.int (kb P) :: rest)) :=
  lv_if_eq hx hb hdg ht (fun h => kt (fun q => by rw [kb_t q] at h; cases h)) (fun h => kf (Decidable.byContradiction (fun q => h (kb_f q))))
theorem kx_ifneB (hx : p.tables.exec = Jvm.exec) (hb : c.code = cc) (P : Prop) [Decidable P] {off : Int} {tgt : Nat} (hdg : decode cc pc = .ok (.ifCond .ne off, 3)) (ht : (pc : Int) + off = (tgt : Int))
    (kt : P → W p l e R s m args below meth c H locs cells slots Q (F0 m tgt ls rest)) (kf : ¬ P → W p l e R s m args below meth c H locs cells slots Q (F0 m (pc + 3) ls rest)) : W p l e R s m args below meth c H locs cells slots Q (F0 m pc ls (.int (kb P) :: rest)) :=
  lv_if_ne hx hb hdg ht (fun h => kt (Decidable.byContradiction (fun q => h (kb_f q)))) (fun h => kf (fun q => by rw [kb_t q] at h; cases h))
end KXA
