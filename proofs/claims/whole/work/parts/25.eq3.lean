/-! the search comes upon what the reference's row of orders gives -/
theorem kFn1_l {q t : List Nat} {j : Nat} (h : j < q.length) : kFn1 (q ++ t) j = kFn1 q j := by
  unfold kFn1
  rw [List.getD_eq_getElem?_getD, List.getD_eq_getElem?_getD, List.getElem?_append_left h]
theorem kFn1_e (q : List Nat) (m : Nat) : kFn1 (q ++ [m]) q.length = m := by
  unfold kFn1
  rw [List.getD_eq_getElem?_getD, List.getElem?_append_right (Nat.le_refl _), Nat.sub_self]
  rfl
theorem kPm_ext {n : Nat} : ∀ r q q2, q2 ∈ kPm n r q → ∃ t, q2 = q ++ t ∧ q2.length = q.length + r
  | 0, q, q2, h => by
    have h : q2 = q := List.mem_singleton.mp h
    exact ⟨[], by rw [h, List.append_nil], by rw [h]; rfl⟩
  | r + 1, q, q2, h => by
    obtain ⟨a, _, h2⟩ := List.mem_flatMap.mp h
    split at h2
    · exact absurd h2 List.not_mem_nil
    · obtain ⟨t, e1, e2⟩ := kPm_ext r (q ++ [a]) q2 h2
      refine ⟨a :: t, ?_, ?_⟩
      · rw [e1, List.append_assoc]; rfl
      · rw [e2, List.length_append]
        show q.length + 1 + r = q.length + (r + 1)
        omega
theorem mE_up {wn hn : Nat → Nat} {wd ck : Nat} {f : Nat → Nat} (hck : 1 ≤ ck) : ∀ n d, (mE wn hn wd ck f n).1 + (mE wn hn wd ck f n).2.1 ≤ (mE wn hn wd ck f (n + d)).1 + (mE wn hn wd ck f (n + d)).2.1
  | _, 0 => Nat.le_refl _
  | n, d + 1 => by
    refine Nat.le_trans (mE_up hck n d) ?_
    rw [show n + (d + 1) = n + d + 1 from rfl, mE]
    split
    · have := kNC_ge (e := (mE wn hn wd ck f (n + d)).1 + (mE wn hn wd ck f (n + d)).2.1) hck
      exact Nat.le_trans this (Nat.le_add_right _ _)
    · exact Nat.add_le_add_left (Nat.le_max_left _ _) _
/-- what the search holds, and what the row of orders has given so far -/
def jRel (np : Nat) (bo : Nat → Int32) (le : Nat) (t : Nat × (Nat → Nat)) : Prop := le = t.1 ∧ (t.1 < 2000000000 → ∀ j, j < np → bo j = nI (t.2 j))
theorem jx_cpy {od bo : Nat → Int32} {np j : Nat} (h : j < np) : va_cpy od bo 0 0 np j = od j := by
  simp [va_cpy, h]
theorem kLN_jR {wn hn : Nat → Nat} {np wd ck : Nat} (hck : 1 ≤ ck) (hw : ∀ k, k < np → wn k ≤ wd) : ∀ rem (q : List Nat) (tp rt tl : Nat) (zz : Nat → Int32) (s : kS3) (t : Nat × (Nat → Nat)), q.length + rem = np → (∀ i, i < np → (zz i = 0 ↔ ¬ i ∈ q)) → mE wn hn wd ck (kFn1 q) q.length = (tp, tl, rt) → (∀ j, j < q.length → s.1 j = nI (kFn1 q j)) → jRel np s.2.1 s.2.2 t →
    jRel np (kLN wn hn np wd ck rem q.length tp rt tl zz s).2.1 (kLN wn hn np wd ck rem q.length tp rt tl zz s).2.2 (mFd mLtN (mEnd wn hn wd ck np) (kPm np rem q) t) ∧ (∀ j, j < q.length → (kLN wn hn np wd ck rem q.length tp rt tl zz s).1 j = nI (kFn1 q j)) := by
  intro rem
  induction rem with
  | zero =>
    intro q tp rt tl zz s t hl hz hE ho hR
    have hl : q.length = np := hl
    have e : mEnd wn hn wd ck np (kFn1 q) = tp + tl := by
      unfold mEnd
      rw [← hl, hE]
    have k1 : kLN wn hn np wd ck 0 q.length tp rt tl zz s = if s.2.2 ≤ tp + tl then s else (s.1, va_cpy s.1 s.2.1 0 0 np, tp + tl) := rfl
    have k2 : mFd mLtN (mEnd wn hn wd ck np) (kPm np 0 q) t = if mLtN (mEnd wn hn wd ck np (kFn1 q)) t.1 then (mEnd wn hn wd ck np (kFn1 q), kFn1 q) else t := rfl
    rw [k1, k2, e]
    by_cases c : s.2.2 ≤ tp + tl
    · rw [if_pos c, if_neg (fun h => by
        have h : tp + tl < t.1 := Nat.le_of_ble_eq_true h
        rw [← hR.1] at h
        omega)]
      exact ⟨hR, ho⟩
    · rw [if_neg c, if_pos (show mLtN (tp + tl) t.1 = true from Nat.ble_eq_true_of_le (show tp + tl < t.1 by rw [← hR.1]; omega))]
      exact ⟨⟨rfl, fun _ j hj => (jx_cpy hj).trans (ho j (by omega))⟩, ho⟩
  | succ rem ih =>
    intro q tp rt tl zz s t hl hz hE ho hR
    rw [kLN_succ]
    by_cases c : s.2.2 ≤ tp + tl
    · rw [if_pos c, mFd_no _ _ (fun q2 h2 => ?_)]
      · exact ⟨hR, ho⟩
      · obtain ⟨tt, e1, e2⟩ := kPm_ext _ _ _ h2
        have e3 : mE wn hn wd ck (kFn1 q2) q.length = (tp, tl, rt) := by
          rw [← hE, mE_c _ (fun i hi => by rw [e1, kFn1_l hi])]
        have e4 := mE_up (wn := wn) (hn := hn) (wd := wd) (f := kFn1 q2) hck q.length (rem + 1)
        rw [e3, hl] at e4
        have e4 : tp + tl ≤ mEnd wn hn wd ck np (kFn1 q2) := e4
        cases hb : mLtN (mEnd wn hn wd ck np (kFn1 q2)) t.1 with
        | false => rfl
        | true =>
          have h : mEnd wn hn wd ck np (kFn1 q2) < t.1 := Nat.le_of_ble_eq_true hb
          rw [← hR.1] at h
          omega
    · rw [if_neg c]
      have main : ∀ m, m ≤ np → jRel np (kIt (kLF wn hn np wd ck rem q.length tp rt tl zz) m s).2.1 (kIt (kLF wn hn np wd ck rem q.length tp rt tl zz) m s).2.2 (mFd mLtN (mEnd wn hn wd ck np) ((List.range m).flatMap (fun a => if q.contains a then [] else kPm np rem (q ++ [a]))) t) ∧ (∀ j, j < q.length → (kIt (kLF wn hn np wd ck rem q.length tp rt tl zz) m s).1 j = nI (kFn1 q j)) := by
        intro m
        induction m with
        | zero => intro _; exact ⟨hR, ho⟩
        | succ m ihm =>
          intro hm
          obtain ⟨hR1, ho1⟩ := ihm (by omega)
          rw [List.range_succ, List.flatMap_append, mFd_app]
          show jRel np (kLF wn hn np wd ck rem q.length tp rt tl zz m (kIt (kLF wn hn np wd ck rem q.length tp rt tl zz) m s)).2.1 (kLF wn hn np wd ck rem q.length tp rt tl zz m (kIt (kLF wn hn np wd ck rem q.length tp rt tl zz) m s)).2.2 _ ∧ (∀ j, j < q.length → (kLF wn hn np wd ck rem q.length tp rt tl zz m (kIt (kLF wn hn np wd ck rem q.length tp rt tl zz) m s)).1 j = nI (kFn1 q j))
          generalize kIt (kLF wn hn np wd ck rem q.length tp rt tl zz) m s = s1 at hR1 ho1 ⊢
          generalize mFd mLtN (mEnd wn hn wd ck np) ((List.range m).flatMap (fun a => if q.contains a then [] else kPm np rem (q ++ [a]))) t = t1 at hR1 ⊢
          have e0 : [m].flatMap (fun a => if q.contains a then [] else kPm np rem (q ++ [a])) = if q.contains m then [] else kPm np rem (q ++ [m]) := by simp
          rw [e0]
          unfold kLF
          by_cases hz0 : zz m = 0
          · have hnq : ¬ m ∈ q := (hz m (by omega)).mp hz0
            rw [if_neg (show ¬ q.contains m = true by simpa using hnq)]
            rw [if_pos hz0]
            have hl2 : (q ++ [m]).length = q.length + 1 := by rw [List.length_append]; rfl
            have hz2 : ∀ i, i < np → (upd zz m 1 i = 0 ↔ ¬ i ∈ q ++ [m]) := by
              intro i hi
              unfold upd
              by_cases e : i = m
              · rw [if_pos e, e]
                simp
              · rw [if_neg e, hz i hi]
                simp [e]
            have ho2 : ∀ j, j < (q ++ [m]).length → upd s1.1 q.length (nI m) j = nI (kFn1 (q ++ [m]) j) := by
              intro j hj
              unfold upd
              by_cases e : j = q.length
              · rw [if_pos e, e, kFn1_e]
              · rw [if_neg e, kFn1_l (by omega)]
                exact ho1 j (by omega)
            have hE0 : mE wn hn wd ck (kFn1 (q ++ [m])) q.length = (tp, tl, rt) := by
              rw [← hE, mE_c _ (fun i hi => kFn1_l hi)]
            have back : ∀ {z : kS3}, (∀ j, j < (q ++ [m]).length → z.1 j = nI (kFn1 (q ++ [m]) j)) → ∀ j, j < q.length → z.1 j = nI (kFn1 q j) := fun h j hj => by rw [h j (by omega), kFn1_l hj]
            by_cases cw : rt + wn m ≤ wd
            · rw [if_pos cw]
              have hE2 : mE wn hn wd ck (kFn1 (q ++ [m])) (q ++ [m]).length = (tp, max tl (hn m), rt + wn m) := by
                rw [hl2, mE, hE0, kFn1_e]
                dsimp only
                rw [if_neg (by omega)]
              have r := ih (q ++ [m]) tp (rt + wn m) (max tl (hn m)) (upd zz m 1) (upd s1.1 q.length (nI m), s1.2.1, s1.2.2) t1 (by omega) hz2 hE2 ho2 hR1
              rw [hl2] at r
              exact ⟨r.1, fun j hj => by rw [r.2 j (by omega), kFn1_l hj]⟩
            · rw [if_neg cw]
              have hq0 : 0 < q.length := by
                rcases Nat.eq_zero_or_pos q.length with h0 | h0
                · exfalso
                  rw [h0] at hE
                  have hE : ((0, 0, 0) : Nat × Nat × Nat) = (tp, tl, rt) := hE
                  injection hE with e1 e2
                  injection e2 with e3 e4
                  have := hw m (by omega)
                  omega
                · exact h0
              have hE2 : mE wn hn wd ck (kFn1 (q ++ [m])) (q ++ [m]).length = (kNC ck (tp + tl), hn m, wn m) := by
                rw [hl2, mE, hE0, kFn1_e]
                dsimp only
                rw [if_pos ⟨hq0, by omega⟩, Nat.zero_add, Nat.zero_max]
              have r := ih (q ++ [m]) (kNC ck (tp + tl)) (wn m) (hn m) (upd zz m 1) (upd s1.1 q.length (nI m), s1.2.1, s1.2.2) t1 (by omega) hz2 hE2 ho2 hR1
              rw [hl2] at r
              exact ⟨r.1, fun j hj => by rw [r.2 j (by omega), kFn1_l hj]⟩
          · have hmq : m ∈ q := Classical.byContradiction (fun h => hz0 ((hz m (by omega)).mpr h))
            rw [if_pos (show q.contains m = true by simpa using hmq), if_neg hz0]
            exact ⟨hR1, ho1⟩
      exact main np (Nat.le_refl _)
theorem jLay {wn hn : Nat → Nat} {np wd ck : Nat} (hck : 1 ≤ ck) (hw : ∀ k, k < np → wn k ≤ wd) (od bo : Nat → Int32) : jRel np (kLN wn hn np wd ck np 0 0 0 0 (fun _ => 0) (od, bo, 2000000000)).2.1 (kLN wn hn np wd ck np 0 0 0 0 (fun _ => 0) (od, bo, 2000000000)).2.2 (mBest wn hn wd ck np) :=
  (kLN_jR hck hw np [] 0 0 0 (fun _ => 0) (od, bo, 2000000000) (2000000000, fun _ => 0) (Nat.zero_add _) (fun i _ => ⟨fun _ => List.not_mem_nil, fun _ => rfl⟩) rfl (fun j hj => absurd hj (Nat.not_lt_zero _)) ⟨rfl, fun h => absurd h (by decide)⟩).1
theorem mFd_le {E : (Nat → Nat) → Nat} : ∀ (a : List (List Nat)) (s : Nat × (Nat → Nat)), (mFd mLtN E a s).1 ≤ s.1
  | [], _ => Nat.le_refl _
  | q :: t, s => by
    refine Nat.le_trans (mFd_le t _) ?_
    split
    · rename_i h
      exact Nat.le_of_lt (Nat.le_of_ble_eq_true h)
    · exact Nat.le_refl _
theorem mBest_b {wn hn : Nat → Nat} {wd ck n : Nat} (h7 : n ≤ 7) (hw : ∀ k, k < n → wn k ≤ 5000) (hh : ∀ k, k < n → hn k ≤ 3000000) (hck : 1 ≤ ck ∧ ck ≤ 500) : (mBest wn hn wd ck n).1 ≤ 24003500 := by
  obtain ⟨t, e, _⟩ := kPm_all (f := fun i => i) h7 (fun _ _ => rfl)
  have h1 := mE_lt (wn := wn) (hn := hn) (wd := wd) (ck := ck) (on := kFo (fun _ => 0) n) h7 (fun i hi => kFo_lt hi) hw hh hck
  rw [← mBest_i (wn := wn) (hn := hn) (wd := wd) (ck := ck) (on := fun _ => 0) e mEnd_r (by omega)]
  exact Nat.le_trans (mFd_le _ _) h1
/-! coats -/
def jRelC (np : Nat) (bo : Nat → Int32) (a b : Nat) (t : (Nat × Nat) × (Nat → Nat)) : Prop := (a = t.1.1 ∧ b = t.1.2) ∧ (t.1.1 < 2000000000 → ∀ j, j < np → bo j = nI (t.2 j))
theorem mK_up {cu se fi pr f : Nat → Nat} : ∀ n d, (mK cu se fi pr f n).2.2.1 ≤ (mK cu se fi pr f (n + d)).2.2.1 ∧ (mK cu se fi pr f n).2.2.2 ≤ (mK cu se fi pr f (n + d)).2.2.2
  | _, 0 => ⟨Nat.le_refl _, Nat.le_refl _⟩
  | n, d + 1 => by
    obtain ⟨h1, h2⟩ := mK_up (cu := cu) (se := se) (fi := fi) (pr := pr) (f := f) n d
    rw [show n + (d + 1) = n + d + 1 from rfl, mK_s]
    refine ⟨Nat.le_trans h1 ?_, Nat.le_trans h2 ?_⟩
    · exact Nat.le_trans (Nat.le_max_right _ _) (Nat.le_add_right _ _)
    · exact Nat.le_add_right _ _
theorem kMN_jR {cu se fi pr : Nat → Nat} {np : Nat} : ∀ rem (q : List Nat) (ct sw fn la : Nat) (zz : Nat → Int32) (s : kS4) (t : (Nat × Nat) × (Nat → Nat)), q.length + rem = np → (∀ i, i < np → (zz i = 0 ↔ ¬ i ∈ q)) → mK cu se fi pr (kFn1 q) q.length = (ct, sw, fn, la) → (∀ j, j < q.length → s.1 j = nI (kFn1 q j)) → jRelC np s.2.1 s.2.2.1 s.2.2.2 t →
    jRelC np (kMN cu se fi pr np rem q.length ct sw fn la zz s).2.1 (kMN cu se fi pr np rem q.length ct sw fn la zz s).2.2.1 (kMN cu se fi pr np rem q.length ct sw fn la zz s).2.2.2 (mFd mLtP (mLE cu se fi pr np) (kPm np rem q) t) ∧ (∀ j, j < q.length → (kMN cu se fi pr np rem q.length ct sw fn la zz s).1 j = nI (kFn1 q j)) := by
  intro rem
  induction rem with
  | zero =>
    intro q ct sw fn la zz s t hl hz hE ho hR
    have hl : q.length = np := hl
    have e : mLE cu se fi pr np (kFn1 q) = (la, fn) := by
      unfold mLE
      rw [← hl, hE]
    have k1 : kMN cu se fi pr np 0 q.length ct sw fn la zz s = if s.2.2.1 < la ∨ (la = s.2.2.1 ∧ s.2.2.2 ≤ fn) then s else (s.1, va_cpy s.1 s.2.1 0 0 np, la, fn) := rfl
    have k2 : mFd mLtP (mLE cu se fi pr np) (kPm np 0 q) t = if mLtP (mLE cu se fi pr np (kFn1 q)) t.1 then (mLE cu se fi pr np (kFn1 q), kFn1 q) else t := rfl
    rw [k1, k2, e]
    obtain ⟨⟨r1, r2⟩, r3⟩ := hR
    by_cases c : s.2.2.1 < la ∨ (la = s.2.2.1 ∧ s.2.2.2 ≤ fn)
    · rw [if_pos c, if_neg (fun h => by
        have h : la < t.1.1 ∨ (la = t.1.1 ∧ fn < t.1.2) := mLtP_i.mp h
        rw [← r1, ← r2] at h
        omega)]
      exact ⟨⟨⟨r1, r2⟩, r3⟩, ho⟩
    · rw [if_neg c, if_pos (mLtP_i.mpr (show la < t.1.1 ∨ (la = t.1.1 ∧ fn < t.1.2) by rw [← r1, ← r2]; omega))]
      exact ⟨⟨⟨rfl, rfl⟩, fun _ j hj => (jx_cpy hj).trans (ho j (by omega))⟩, ho⟩
  | succ rem ih =>
    intro q ct sw fn la zz s t hl hz hE ho hR
    rw [kMN_succ]
    by_cases c : s.2.2.1 < la ∨ (la = s.2.2.1 ∧ s.2.2.2 ≤ fn)
    · rw [if_pos c, mFd_no _ _ (fun q2 h2 => ?_)]
      · exact ⟨hR, ho⟩
      · obtain ⟨tt, e1, e2⟩ := kPm_ext _ _ _ h2
        have e3 : mK cu se fi pr (kFn1 q2) q.length = (ct, sw, fn, la) := by
          rw [← hE, mK_c _ (fun i hi => by rw [e1, kFn1_l hi])]
        have e4 := mK_up (cu := cu) (se := se) (fi := fi) (pr := pr) (f := kFn1 q2) q.length (rem + 1)
        rw [e3, hl] at e4
        obtain ⟨e5, e6⟩ := e4
        have e5 : fn ≤ (mLE cu se fi pr np (kFn1 q2)).2 := e5
        have e6 : la ≤ (mLE cu se fi pr np (kFn1 q2)).1 := e6
        cases hb : mLtP (mLE cu se fi pr np (kFn1 q2)) t.1 with
        | false => rfl
        | true =>
          have h := mLtP_i.mp hb
          rw [← hR.1.1, ← hR.1.2] at h
          omega
    · rw [if_neg c]
      have main : ∀ m, m ≤ np → jRelC np (kIt (kMF cu se fi pr np rem q.length ct sw fn la zz) m s).2.1 (kIt (kMF cu se fi pr np rem q.length ct sw fn la zz) m s).2.2.1 (kIt (kMF cu se fi pr np rem q.length ct sw fn la zz) m s).2.2.2 (mFd mLtP (mLE cu se fi pr np) ((List.range m).flatMap (fun a => if q.contains a then [] else kPm np rem (q ++ [a]))) t) ∧ (∀ j, j < q.length → (kIt (kMF cu se fi pr np rem q.length ct sw fn la zz) m s).1 j = nI (kFn1 q j)) := by
        intro m
        induction m with
        | zero => intro _; exact ⟨hR, ho⟩
        | succ m ihm =>
          intro hm
          obtain ⟨hR1, ho1⟩ := ihm (by omega)
          rw [List.range_succ, List.flatMap_append, mFd_app]
          show jRelC np (kMF cu se fi pr np rem q.length ct sw fn la zz m (kIt (kMF cu se fi pr np rem q.length ct sw fn la zz) m s)).2.1 (kMF cu se fi pr np rem q.length ct sw fn la zz m (kIt (kMF cu se fi pr np rem q.length ct sw fn la zz) m s)).2.2.1 (kMF cu se fi pr np rem q.length ct sw fn la zz m (kIt (kMF cu se fi pr np rem q.length ct sw fn la zz) m s)).2.2.2 _ ∧ (∀ j, j < q.length → (kMF cu se fi pr np rem q.length ct sw fn la zz m (kIt (kMF cu se fi pr np rem q.length ct sw fn la zz) m s)).1 j = nI (kFn1 q j))
          generalize kIt (kMF cu se fi pr np rem q.length ct sw fn la zz) m s = s1 at hR1 ho1 ⊢
          generalize mFd mLtP (mLE cu se fi pr np) ((List.range m).flatMap (fun a => if q.contains a then [] else kPm np rem (q ++ [a]))) t = t1 at hR1 ⊢
          have e0 : [m].flatMap (fun a => if q.contains a then [] else kPm np rem (q ++ [a])) = if q.contains m then [] else kPm np rem (q ++ [m]) := by simp
          rw [e0]
          unfold kMF
          by_cases hz0 : zz m = 0
          · have hnq : ¬ m ∈ q := (hz m (by omega)).mp hz0
            rw [if_neg (show ¬ q.contains m = true by simpa using hnq)]
            rw [if_pos hz0]
            have hl2 : (q ++ [m]).length = q.length + 1 := by rw [List.length_append]; rfl
            have hz2 : ∀ i, i < np → (upd zz m 1 i = 0 ↔ ¬ i ∈ q ++ [m]) := by
              intro i hi
              unfold upd
              by_cases e : i = m
              · rw [if_pos e, e]
                simp
              · rw [if_neg e, hz i hi]
                simp [e]
            have ho2 : ∀ j, j < (q ++ [m]).length → upd s1.1 q.length (nI m) j = nI (kFn1 (q ++ [m]) j) := by
              intro j hj
              unfold upd
              by_cases e : j = q.length
              · rw [if_pos e, e, kFn1_e]
              · rw [if_neg e, kFn1_l (by omega)]
                exact ho1 j (by omega)
            have hE2 : mK cu se fi pr (kFn1 (q ++ [m])) (q ++ [m]).length = (ct + cu m, max (ct + cu m) sw + se m, max (max (ct + cu m) sw + se m) fn + fi m, la + (max (max (ct + cu m) sw + se m) fn + fi m - pr m)) := by
              rw [hl2, mK_s, mK_c q.length (fun i hi => kFn1_l hi), hE, kFn1_e]
            have r := ih (q ++ [m]) _ _ _ _ (upd zz m 1) (upd s1.1 q.length (nI m), s1.2.1, s1.2.2) t1 (by omega) hz2 hE2 ho2 hR1
            rw [hl2] at r
            exact ⟨r.1, fun j hj => by rw [r.2 j (by omega), kFn1_l hj]⟩
          · have hmq : m ∈ q := Classical.byContradiction (fun h => hz0 ((hz m (by omega)).mpr h))
            rw [if_pos (show q.contains m = true by simpa using hmq), if_neg hz0]
            exact ⟨hR1, ho1⟩
      exact main np (Nat.le_refl _)
theorem jShop (cu se fi pr : Nat → Nat) (np : Nat) (oc bc : Nat → Int32) : jRelC np (kShop cu se fi pr np oc bc).2.1 (kShop cu se fi pr np oc bc).2.2.1 (kShop cu se fi pr np oc bc).2.2.2 (mBestC cu se fi pr np) :=
  (kMN_jR np [] 0 0 0 0 (fun _ => 0) (oc, bc, 2000000000, 2000000000) ((2000000000, 2000000000), fun _ => 0) (Nat.zero_add _) (fun i _ => ⟨fun _ => List.not_mem_nil, fun _ => rfl⟩) rfl (fun j hj => absurd hj (Nat.not_lt_zero _)) ⟨⟨rfl, rfl⟩, fun h => absurd h (by decide)⟩).1
theorem mFd_leP {E : (Nat → Nat) → Nat × Nat} : ∀ (a : List (List Nat)) (s : (Nat × Nat) × (Nat → Nat)), (mFd mLtP E a s).1.1 ≤ s.1.1
  | [], _ => Nat.le_refl _
  | q :: t, s => by
    refine Nat.le_trans (mFd_leP t _) ?_
    split
    · rename_i h
      have h := mLtP_i.mp h
      show (E (kFn1 q)).1 ≤ s.1.1
      omega
    · exact Nat.le_refl _
theorem mBestC_b {cu se fi pr : Nat → Nat} {n : Nat} (h6 : n ≤ 6) (hb : ∀ k, k < n → cu k ≤ 50 ∧ se k ≤ 50 ∧ fi k ≤ 50 ∧ pr k ≤ 1000) : (mBestC cu se fi pr n).1.1 ≤ 5400 := by
  obtain ⟨t, e, _⟩ := kPm_all (n := n) (f := fun i => i) (by omega) (fun _ _ => rfl)
  have h1 := mK_lt (cu := cu) (se := se) (fi := fi) (pr := pr) (on := kFo (fun _ => 0) n) h6 (fun i hi => kFo_lt hi) hb ⟨rfl, rfl⟩
  rw [← mBestC_i (cu := cu) (se := se) (fi := fi) (pr := pr) (on := fun _ => 0) e ⟨rfl, rfl⟩ (by omega)]
  exact Nat.le_trans (mFd_leP _ _) h1.1
