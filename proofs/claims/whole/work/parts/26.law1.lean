/-! the two sides agree: what holds at the law's loop head -/
def jTT (hd bd ms dy vl hbt : Nat → Int32) (told : Nat) (hd2 bd2 ms2 dy2 vl2 hbt2 : Nat → Int32) (told2 : Nat) : Prop := (hd = hd2 ∧ bd = bd2 ∧ ms = ms2 ∧ dy = dy2 ∧ vl = vl2 ∧ hbt = hbt2 ∧ told = told2) ∧ told ≤ 40 ∧ (∀ i, i < told → vp_in (hd i) 4) ∧ (∀ i, i < told → 0 ≤ dy i ∧ dy i ≤ 10000) ∧ (∀ i, i < told → 0 ≤ (vl i).toInt ∧ (vl i).toInt ≤ 3000) ∧ (∀ k, (hbt k).toInt.natAbs ≤ 50)
def jPP (kd ba ot aa bb : Nat → Int32) (pts : Nat) (k0 k1 k2 k3 k4 : Nat → Int32) (pts2 : Nat) : Prop := (kd = k0 ∧ k1 = jK1 kd ba aa ∧ k2 = jK2 kd ot aa bb ∧ k3 = jK3 kd aa bb ∧ k4 = jK4 kd bb ∧ pts = pts2) ∧ pts ≤ 20 ∧ ∀ p, p < pts → jPt kd ba ot aa bb p
def jCC (szs joi cor : Nat → Int32) (pcs sms : Nat) (szs2 joi2 cor2 : Nat → Int32) (pcs2 sms2 : Nat) (sn jn : Nat → Nat) (pts : Nat) : Prop := (szs = (fun k => nI (sn k)) ∧ joi = (fun k => nI (jn k)) ∧ szs2 = (fun k => nI (sn k)) ∧ joi2 = (fun k => nI (jn k)) ∧ cor = cor2 ∧ pcs = pcs2 ∧ sms = sms2) ∧ pcs ≤ 7 ∧ sms ≤ 10 ∧ (∀ k, k < pcs → 0 < sn k ∧ sn k ≤ 8 ∧ jCor cor sn pts k) ∧ (∀ k, k < sms → (jn (k * 4) < pcs ∧ jn (k * 4 + 1) < sn (jn (k * 4))) ∧ jn (k * 4 + 2) < pcs ∧ jn (k * 4 + 3) < sn (jn (k * 4 + 2)))
def jNN (cu se fi pr : Nat → Nat) (nc : Nat) (cu2 se2 fi2 pr2 : Nat → Nat) (nc2 : Nat) : Prop := (cu = cu2 ∧ se = se2 ∧ fi = fi2 ∧ pr = pr2 ∧ nc = nc2) ∧ nc ≤ 6 ∧ ∀ k, k < nc → cu k ≤ 50 ∧ se k ≤ 50 ∧ fi k ≤ 50 ∧ pr k ≤ 1000
def jWW (wd ck wd2 ck2 : Nat) : Prop := (wd = wd2 ∧ ck = ck2) ∧ wd ≤ 5000 ∧ 1 ≤ ck ∧ ck ≤ 500
/-! helpers -/
theorem ju {P : Int32 → Prop} {f : Nat → Int32} {n : Nat} {v : Int32} (h : ∀ i, i < n → P (f i)) (hv : P v) : ∀ i, i < n + 1 → P (upd f n v i) := fun i hi => by
  unfold upd
  by_cases e : i = n
  · rw [if_pos e]; exact hv
  · rw [if_neg e]; exact h i (by omega)
theorem jx_rg {v a b : Int32} {x y : Int} (ha : a.toInt = x) (hb : b.toInt = y) (h : a ≤ v ∧ v ≤ b) : x ≤ v.toInt ∧ v.toInt ≤ y := by
  have := kx_in.mp h
  rw [ha, hb] at this
  exact this
theorem jx_vn {v : Int32} {n N : Nat} (h : vp_in v n) (hn : n ≤ N) (hN : N < 2 ^ 31) : vp_in v N := by
  obtain ⟨j, hj, rfl⟩ := vp_in_of h (by omega)
  exact vp_in_nI (by omega) hN
/-! tell, habit -/
theorem lj_tell {hd bd ms dy vl hbt hd1 bd1 ms1 dy1 vl1 hd2 bd2 ms2 dy2 vl2 : Nat → Int32} {told told1 told2 : Nat} {hand body measure day v r1 r2 : Int32} (g : jTT hd bd ms dy vl hbt told hd bd ms dy vl hbt told) (h1 : if (0 ≤ hand ∧ hand ≤ 3) ∧ (0 ≤ body ∧ body ≤ 5) ∧ (0 ≤ measure ∧ measure ≤ 5) ∧ (0 ≤ day ∧ day ≤ 10000) ∧ (0 ≤ v ∧ v ≤ 3000) then (if told < 40 then r1 = nI (told + 1) ∧ hd1 = upd hd told hand ∧ bd1 = upd bd told body ∧ ms1 = upd ms told measure ∧ dy1 = upd dy told day ∧ vl1 = upd vl told v ∧ told1 = told + 1 else r1 = -4 ∧ hd1 = hd ∧ bd1 = bd ∧ ms1 = ms ∧ dy1 = dy ∧ vl1 = vl ∧ told1 = told) else (r1 = -2 ∧ hd1 = hd ∧ bd1 = bd ∧ ms1 = ms ∧ dy1 = dy ∧ vl1 = vl ∧ told1 = told)) (h2 : if (0 ≤ hand ∧ hand ≤ 3) ∧ (0 ≤ body ∧ body ≤ 5) ∧ (0 ≤ measure ∧ measure ≤ 5) ∧ (0 ≤ day ∧ day ≤ 10000) ∧ (0 ≤ v ∧ v ≤ 3000) then (if told < 40 then r2 = nI (told + 1) ∧ hd2 = upd hd told hand ∧ bd2 = upd bd told body ∧ ms2 = upd ms told measure ∧ dy2 = upd dy told day ∧ vl2 = upd vl told v ∧ told2 = told + 1 else r2 = -4 ∧ hd2 = hd ∧ bd2 = bd ∧ ms2 = ms ∧ dy2 = dy ∧ vl2 = vl ∧ told2 = told) else (r2 = -2 ∧ hd2 = hd ∧ bd2 = bd ∧ ms2 = ms ∧ dy2 = dy ∧ vl2 = vl ∧ told2 = told)) : r1 = r2 ∧ jTT hd1 bd1 ms1 dy1 vl1 hbt told1 hd2 bd2 ms2 dy2 vl2 hbt told2 := by
  obtain ⟨-, g1, g2, g3, g4, g5⟩ := g
  by_cases c : (0 ≤ hand ∧ hand ≤ 3) ∧ (0 ≤ body ∧ body ≤ 5) ∧ (0 ≤ measure ∧ measure ≤ 5) ∧ (0 ≤ day ∧ day ≤ 10000) ∧ (0 ≤ v ∧ v ≤ 3000)
  · rw [if_pos c] at h1 h2
    by_cases c2 : told < 40
    · rw [if_pos c2] at h1 h2
      obtain ⟨rfl, rfl, rfl, rfl, rfl, rfl, rfl⟩ := h1
      obtain ⟨rfl, rfl, rfl, rfl, rfl, rfl, rfl⟩ := h2
      obtain ⟨c1, _, _, c4, c5⟩ := c
      exact ⟨rfl, ⟨rfl, rfl, rfl, rfl, rfl, rfl, rfl⟩, by omega, ju (P := fun x => vp_in x 4) g2 (kx_vin (k := 3) (by decide) c1.1 c1.2), ju (P := fun x => 0 ≤ x ∧ x ≤ 10000) g3 c4, ju (P := fun x => 0 ≤ x.toInt ∧ x.toInt ≤ 3000) g4 (jx_rg (by decide) (by decide) c5), g5⟩
    · rw [if_neg c2] at h1 h2
      obtain ⟨rfl, rfl, rfl, rfl, rfl, rfl, rfl⟩ := h1
      obtain ⟨rfl, rfl, rfl, rfl, rfl, rfl, rfl⟩ := h2
      exact ⟨rfl, ⟨rfl, rfl, rfl, rfl, rfl, rfl, rfl⟩, g1, g2, g3, g4, g5⟩
  · rw [if_neg c] at h1 h2
    obtain ⟨rfl, rfl, rfl, rfl, rfl, rfl, rfl⟩ := h1
    obtain ⟨rfl, rfl, rfl, rfl, rfl, rfl, rfl⟩ := h2
    exact ⟨rfl, ⟨rfl, rfl, rfl, rfl, rfl, rfl, rfl⟩, g1, g2, g3, g4, g5⟩
theorem lj_habit {hd bd ms dy vl hbt hbt1 hbt2 : Nat → Int32} {told : Nat} {hand measure v r1 r2 : Int32} (g : jTT hd bd ms dy vl hbt told hd bd ms dy vl hbt told) (h1 : if (0 ≤ hand ∧ hand ≤ 3) ∧ (0 ≤ measure ∧ measure ≤ 5) ∧ ((-50) ≤ v ∧ v ≤ 50) then (r1 = hbt (hand * 6 + measure).toNatClampNeg ∧ hbt1 = upd hbt (hand * 6 + measure).toNatClampNeg v) else (r1 = -1000 ∧ hbt1 = hbt)) (h2 : if (0 ≤ hand ∧ hand ≤ 3) ∧ (0 ≤ measure ∧ measure ≤ 5) ∧ ((-50) ≤ v ∧ v ≤ 50) then (r2 = hbt (hand * 6 + measure).toNatClampNeg ∧ hbt2 = upd hbt (hand * 6 + measure).toNatClampNeg v) else (r2 = -1000 ∧ hbt2 = hbt)) : r1 = r2 ∧ jTT hd bd ms dy vl hbt1 told hd bd ms dy vl hbt2 told := by
  obtain ⟨-, g1, g2, g3, g4, g5⟩ := g
  by_cases c : (0 ≤ hand ∧ hand ≤ 3) ∧ (0 ≤ measure ∧ measure ≤ 5) ∧ ((-50) ≤ v ∧ v ≤ 50)
  · rw [if_pos c] at h1 h2
    obtain ⟨rfl, rfl⟩ := h1
    obtain ⟨rfl, rfl⟩ := h2
    refine ⟨rfl, ⟨rfl, rfl, rfl, rfl, rfl, rfl, rfl⟩, g1, g2, g3, g4, fun k => ?_⟩
    have hv : -50 ≤ v.toInt ∧ v.toInt ≤ 50 := jx_rg (by decide) (by decide) c.2.2
    unfold upd
    split
    · omega
    · exact g5 k
  · rw [if_neg c] at h1 h2
    obtain ⟨rfl, rfl⟩ := h1
    obtain ⟨rfl, rfl⟩ := h2
    exact ⟨rfl, ⟨rfl, rfl, rfl, rfl, rfl, rfl, rfl⟩, g1, g2, g3, g4, g5⟩
theorem lj_measure {hd bd ms dy vl hbt : Nat → Int32} {told : Nat} {body measure : Int32} (g : jTT hd bd ms dy vl hbt told hd bd ms dy vl hbt told) : (if (0 ≤ body ∧ body ≤ 5) ∧ (0 ≤ measure ∧ measure ≤ 5) then kLatest hd bd ms dy vl hbt told body measure else -2) = (if (0 ≤ body ∧ body ≤ 5) ∧ (0 ≤ measure ∧ measure ≤ 5) then kLat20 hd bd ms dy vl hbt told body measure else -2) := by
  rw [kLat_eq (fun i hi => (g.2.2.2.1 i hi).2)]
theorem lj_grown {hd bd ms dy vl hbt : Nat → Int32} {told : Nat} {body measure : Int32} (g : jTT hd bd ms dy vl hbt told hd bd ms dy vl hbt told) : (if (0 ≤ body ∧ body ≤ 5) ∧ (0 ≤ measure ∧ measure ≤ 5) then kGrow hd bd ms dy vl hbt told body measure else -10000) = (if (0 ≤ body ∧ body ≤ 5) ∧ (0 ≤ measure ∧ measure ≤ 5) then kGrow20 hd bd ms dy vl hbt told body measure else -10000) := by
  rw [kGrow_eq (fun i hi => (g.2.2.2.1 i hi).2) (fun i hi => (g.2.2.2.1 i hi).1)]
theorem lj_found {hd bd ms dy vl : Nat → Int32} {told : Nat} {measure sx tx : Int32} : (if (0 ≤ measure ∧ measure ≤ 5) ∧ (0 ≤ sx ∧ sx ≤ 3) ∧ (0 ≤ tx ∧ tx ≤ 3) then kFound hd bd ms dy vl told measure sx tx else -2000) = (if (0 ≤ measure ∧ measure ≤ 5) ∧ (0 ≤ sx ∧ sx ≤ 3) ∧ (0 ≤ tx ∧ tx ≤ 3) then mFound hd bd ms dy vl told measure sx tx else -2000) := by
  rw [mFound_eq]
/-! points -/
theorem jK1_u {kd ba aa : Nat → Int32} {n : Nat} {kind base a w : Int32} (e : w = if kind = 0 then a else base) : upd (jK1 kd ba aa) n w = jK1 (upd kd n kind) (upd ba n base) (upd aa n a) := by
  funext p
  unfold jK1 upd
  by_cases h : p = n
  · simp only [if_pos h]; exact e
  · simp only [if_neg h]
theorem jK2_u {kd ot aa bb : Nat → Int32} {n : Nat} {kind other a b w : Int32} (e : w = if kind = 0 then b else if kind = 1 then a else other) : upd (jK2 kd ot aa bb) n w = jK2 (upd kd n kind) (upd ot n other) (upd aa n a) (upd bb n b) := by
  funext p
  unfold jK2 upd
  by_cases h : p = n
  · simp only [if_pos h]; exact e
  · simp only [if_neg h]
theorem jK3_u {kd aa bb : Nat → Int32} {n : Nat} {kind a b w : Int32} (e : w = if kind = 0 then 0 else if kind = 1 then b else a) : upd (jK3 kd aa bb) n w = jK3 (upd kd n kind) (upd aa n a) (upd bb n b) := by
  funext p
  unfold jK3 upd
  by_cases h : p = n
  · simp only [if_pos h]; exact e
  · simp only [if_neg h]
theorem jK4_u {kd bb : Nat → Int32} {n : Nat} {kind b w : Int32} (e : w = if kind = 0 then 0 else if kind = 1 then 0 else b) : upd (jK4 kd bb) n w = jK4 (upd kd n kind) (upd bb n b) := by
  funext p
  unfold jK4 upd
  by_cases h : p = n
  · simp only [if_pos h]; exact e
  · simp only [if_neg h]
def jPv (k ba ot aa bb : Int32) (p : Nat) : Prop :=
  (k = 0 ∧ aa.toInt.natAbs ≤ 5000 ∧ bb.toInt.natAbs ≤ 5000) ∨
  (k = 1 ∧ (∃ j, j < p ∧ ba = nI j) ∧ aa.toInt.natAbs ≤ 5000 ∧ bb.toInt.natAbs ≤ 5000) ∨
  ((k = 2 ∨ k = 3) ∧ (∃ j, j < p ∧ ba = nI j) ∧ (∃ j, j < 6 ∧ ot = nI j) ∧ aa.toInt.natAbs ≤ 20 ∧ 1 ≤ bb.toInt) ∨
  (k = 4 ∧ (∃ j, j < p ∧ ba = nI j) ∧ (∃ j, j < p ∧ ot = nI j))
theorem jPP_u {kd ba ot aa bb : Nat → Int32} {pts : Nat} {kind base other a b w1 w2 w3 w4 : Int32} (g : jPP kd ba ot aa bb pts kd (jK1 kd ba aa) (jK2 kd ot aa bb) (jK3 kd aa bb) (jK4 kd bb) pts) (h20 : pts < 20) (e1 : w1 = if kind = 0 then a else base) (e2 : w2 = if kind = 0 then b else if kind = 1 then a else other) (e3 : w3 = if kind = 0 then 0 else if kind = 1 then b else a) (e4 : w4 = if kind = 0 then 0 else if kind = 1 then 0 else b) (hv : jPv kind base other a b pts) : jPP (upd kd pts kind) (upd ba pts base) (upd ot pts other) (upd aa pts a) (upd bb pts b) (pts + 1) (upd kd pts kind) (upd (jK1 kd ba aa) pts w1) (upd (jK2 kd ot aa bb) pts w2) (upd (jK3 kd aa bb) pts w3) (upd (jK4 kd bb) pts w4) (pts + 1) := by
  obtain ⟨-, g1, g2⟩ := g
  refine ⟨⟨rfl, jK1_u e1, jK2_u e2, jK3_u e3, jK4_u e4, rfl⟩, by omega, fun p hp => ?_⟩
  by_cases e : p = pts
  · subst e
    show jPv (upd kd p kind p) (upd ba p base p) (upd ot p other p) (upd aa p a p) (upd bb p b p) p
    rw [pk_us, pk_us, pk_us, pk_us, pk_us]
    exact hv
  · have h := g2 p (by omega)
    show jPv (upd kd pts kind p) (upd ba pts base p) (upd ot pts other p) (upd aa pts a p) (upd bb pts b p) p
    rw [show upd kd pts kind p = kd p from if_neg e, show upd ba pts base p = ba p from if_neg e, show upd ot pts other p = ot p from if_neg e, show upd aa pts a p = aa p from if_neg e, show upd bb pts b p = bb p from if_neg e]
    exact h
theorem jx_abs {v : Int32} (h : (-5000) ≤ v ∧ v ≤ 5000) : v.toInt.natAbs ≤ 5000 := by
  have : -5000 ≤ v.toInt ∧ v.toInt ≤ 5000 := jx_rg (by decide) (by decide) h
  omega
theorem jx_abs20 {v : Int32} (h : (-20) ≤ v ∧ v ≤ 20) : v.toInt.natAbs ≤ 20 := by
  have : -20 ≤ v.toInt ∧ v.toInt ≤ 20 := jx_rg (by decide) (by decide) h
  omega
theorem jx_me {v : Int32} (h : 0 ≤ v ∧ v ≤ 5) : ∃ j, j < 6 ∧ v = nI j := vp_in_of (kx_vin (k := 5) (by decide) h.1 h.2) (by decide)
theorem lj_fixed {kd ba ot aa bb kd1 ba1 ot1 aa1 bb1 k02 k12 k22 k32 k42 : Nat → Int32} {pts pts1 pts2 : Nat} {a b r1 r2 : Int32} (g : jPP kd ba ot aa bb pts kd (jK1 kd ba aa) (jK2 kd ot aa bb) (jK3 kd aa bb) (jK4 kd bb) pts) (h1 : if ((-5000) ≤ a ∧ a ≤ 5000) ∧ ((-5000) ≤ b ∧ b ≤ 5000) then (if pts < 20 then r1 = nI pts ∧ kd1 = upd kd pts 0 ∧ ba1 = upd ba pts 0 ∧ ot1 = upd ot pts 0 ∧ aa1 = upd aa pts a ∧ bb1 = upd bb pts b ∧ pts1 = pts + 1 else r1 = -4 ∧ kd1 = kd ∧ ba1 = ba ∧ ot1 = ot ∧ aa1 = aa ∧ bb1 = bb ∧ pts1 = pts) else (r1 = -2 ∧ kd1 = kd ∧ ba1 = ba ∧ ot1 = ot ∧ aa1 = aa ∧ bb1 = bb ∧ pts1 = pts)) (h2 : if ((-5000) ≤ a ∧ a ≤ 5000) ∧ ((-5000) ≤ b ∧ b ≤ 5000) then (if pts < 20 then r2 = nI pts ∧ k02 = upd kd pts 0 ∧ k12 = upd (jK1 kd ba aa) pts a ∧ k22 = upd (jK2 kd ot aa bb) pts b ∧ k32 = upd (jK3 kd aa bb) pts 0 ∧ k42 = upd (jK4 kd bb) pts 0 ∧ pts2 = pts + 1 else r2 = -4 ∧ k02 = kd ∧ k12 = (jK1 kd ba aa) ∧ k22 = (jK2 kd ot aa bb) ∧ k32 = (jK3 kd aa bb) ∧ k42 = (jK4 kd bb) ∧ pts2 = pts) else (r2 = -2 ∧ k02 = kd ∧ k12 = (jK1 kd ba aa) ∧ k22 = (jK2 kd ot aa bb) ∧ k32 = (jK3 kd aa bb) ∧ k42 = (jK4 kd bb) ∧ pts2 = pts)) : r1 = r2 ∧ pts ≤ pts1 ∧ jPP kd1 ba1 ot1 aa1 bb1 pts1 k02 k12 k22 k32 k42 pts2 := by
  by_cases c : ((-5000) ≤ a ∧ a ≤ 5000) ∧ ((-5000) ≤ b ∧ b ≤ 5000)
  · rw [if_pos c] at h1 h2
    by_cases c2 : pts < 20
    · rw [if_pos c2] at h1 h2
      obtain ⟨rfl, rfl, rfl, rfl, rfl, rfl, rfl⟩ := h1
      obtain ⟨rfl, rfl, rfl, rfl, rfl, rfl, rfl⟩ := h2
      exact ⟨rfl, by omega, jPP_u g c2 rfl rfl rfl rfl (Or.inl ⟨rfl, jx_abs c.1, jx_abs c.2⟩)⟩
    · rw [if_neg c2] at h1 h2
      obtain ⟨rfl, rfl, rfl, rfl, rfl, rfl, rfl⟩ := h1
      obtain ⟨rfl, rfl, rfl, rfl, rfl, rfl, rfl⟩ := h2
      exact ⟨rfl, Nat.le_refl _, g⟩
  · rw [if_neg c] at h1 h2
    obtain ⟨rfl, rfl, rfl, rfl, rfl, rfl, rfl⟩ := h1
    obtain ⟨rfl, rfl, rfl, rfl, rfl, rfl, rfl⟩ := h2
    exact ⟨rfl, Nat.le_refl _, g⟩
theorem lj_off {kd ba ot aa bb kd1 ba1 ot1 aa1 bb1 k02 k12 k22 k32 k42 : Nat → Int32} {pts pts1 pts2 : Nat} {pq a b r1 r2 : Int32} (g : jPP kd ba ot aa bb pts kd (jK1 kd ba aa) (jK2 kd ot aa bb) (jK3 kd aa bb) (jK4 kd bb) pts) (h1 : if (0 ≤ pq ∧ pq ≤ nI pts - 1) ∧ ((-5000) ≤ a ∧ a ≤ 5000) ∧ ((-5000) ≤ b ∧ b ≤ 5000) then (if pts < 20 then r1 = nI pts ∧ kd1 = upd kd pts 1 ∧ ba1 = upd ba pts pq ∧ ot1 = upd ot pts 0 ∧ aa1 = upd aa pts a ∧ bb1 = upd bb pts b ∧ pts1 = pts + 1 else r1 = -4 ∧ kd1 = kd ∧ ba1 = ba ∧ ot1 = ot ∧ aa1 = aa ∧ bb1 = bb ∧ pts1 = pts) else (r1 = -2 ∧ kd1 = kd ∧ ba1 = ba ∧ ot1 = ot ∧ aa1 = aa ∧ bb1 = bb ∧ pts1 = pts)) (h2 : if (0 ≤ pq ∧ pq ≤ nI pts - 1) ∧ ((-5000) ≤ a ∧ a ≤ 5000) ∧ ((-5000) ≤ b ∧ b ≤ 5000) then (if pts < 20 then r2 = nI pts ∧ k02 = upd kd pts 1 ∧ k12 = upd (jK1 kd ba aa) pts pq ∧ k22 = upd (jK2 kd ot aa bb) pts a ∧ k32 = upd (jK3 kd aa bb) pts b ∧ k42 = upd (jK4 kd bb) pts 0 ∧ pts2 = pts + 1 else r2 = -4 ∧ k02 = kd ∧ k12 = (jK1 kd ba aa) ∧ k22 = (jK2 kd ot aa bb) ∧ k32 = (jK3 kd aa bb) ∧ k42 = (jK4 kd bb) ∧ pts2 = pts) else (r2 = -2 ∧ k02 = kd ∧ k12 = (jK1 kd ba aa) ∧ k22 = (jK2 kd ot aa bb) ∧ k32 = (jK3 kd aa bb) ∧ k42 = (jK4 kd bb) ∧ pts2 = pts)) : r1 = r2 ∧ pts ≤ pts1 ∧ jPP kd1 ba1 ot1 aa1 bb1 pts1 k02 k12 k22 k32 k42 pts2 := by
  by_cases c : (0 ≤ pq ∧ pq ≤ nI pts - 1) ∧ ((-5000) ≤ a ∧ a ≤ 5000) ∧ ((-5000) ≤ b ∧ b ≤ 5000)
  · rw [if_pos c] at h1 h2
    by_cases c2 : pts < 20
    · rw [if_pos c2] at h1 h2
      obtain ⟨rfl, rfl, rfl, rfl, rfl, rfl, rfl⟩ := h1
      obtain ⟨rfl, rfl, rfl, rfl, rfl, rfl, rfl⟩ := h2
      exact ⟨rfl, by omega, jPP_u g c2 rfl rfl rfl rfl (Or.inr (Or.inl ⟨rfl, kx_has c.1 (by omega), jx_abs c.2.1, jx_abs c.2.2⟩))⟩
    · rw [if_neg c2] at h1 h2
      obtain ⟨rfl, rfl, rfl, rfl, rfl, rfl, rfl⟩ := h1
      obtain ⟨rfl, rfl, rfl, rfl, rfl, rfl, rfl⟩ := h2
      exact ⟨rfl, Nat.le_refl _, g⟩
  · rw [if_neg c] at h1 h2
    obtain ⟨rfl, rfl, rfl, rfl, rfl, rfl, rfl⟩ := h1
    obtain ⟨rfl, rfl, rfl, rfl, rfl, rfl, rfl⟩ := h2
    exact ⟨rfl, Nat.le_refl _, g⟩
theorem lj_by {kd ba ot aa bb kd1 ba1 ot1 aa1 bb1 k02 k12 k22 k32 k42 : Nat → Int32} {pts pts1 pts2 : Nat} {pq measure a b way r1 r2 : Int32} (g : jPP kd ba ot aa bb pts kd (jK1 kd ba aa) (jK2 kd ot aa bb) (jK3 kd aa bb) (jK4 kd bb) pts) (h1 : if (0 ≤ pq ∧ pq ≤ nI pts - 1) ∧ (0 ≤ measure ∧ measure ≤ 5) ∧ ((-20) ≤ a ∧ a ≤ 20) ∧ (1 ≤ b ∧ b ≤ 20) ∧ (0 ≤ way ∧ way ≤ 1) then (if pts < 20 then r1 = nI pts ∧ kd1 = upd kd pts (if way = 0 then 2 else 3) ∧ ba1 = upd ba pts pq ∧ ot1 = upd ot pts measure ∧ aa1 = upd aa pts a ∧ bb1 = upd bb pts b ∧ pts1 = pts + 1 else r1 = -4 ∧ kd1 = kd ∧ ba1 = ba ∧ ot1 = ot ∧ aa1 = aa ∧ bb1 = bb ∧ pts1 = pts) else (r1 = -2 ∧ kd1 = kd ∧ ba1 = ba ∧ ot1 = ot ∧ aa1 = aa ∧ bb1 = bb ∧ pts1 = pts)) (h2 : if (0 ≤ pq ∧ pq ≤ nI pts - 1) ∧ (0 ≤ measure ∧ measure ≤ 5) ∧ ((-20) ≤ a ∧ a ≤ 20) ∧ (1 ≤ b ∧ b ≤ 20) ∧ (0 ≤ way ∧ way ≤ 1) then (if pts < 20 then r2 = nI pts ∧ k02 = upd kd pts (if way = 0 then 2 else 3) ∧ k12 = upd (jK1 kd ba aa) pts pq ∧ k22 = upd (jK2 kd ot aa bb) pts measure ∧ k32 = upd (jK3 kd aa bb) pts a ∧ k42 = upd (jK4 kd bb) pts b ∧ pts2 = pts + 1 else r2 = -4 ∧ k02 = kd ∧ k12 = (jK1 kd ba aa) ∧ k22 = (jK2 kd ot aa bb) ∧ k32 = (jK3 kd aa bb) ∧ k42 = (jK4 kd bb) ∧ pts2 = pts) else (r2 = -2 ∧ k02 = kd ∧ k12 = (jK1 kd ba aa) ∧ k22 = (jK2 kd ot aa bb) ∧ k32 = (jK3 kd aa bb) ∧ k42 = (jK4 kd bb) ∧ pts2 = pts)) : r1 = r2 ∧ pts ≤ pts1 ∧ jPP kd1 ba1 ot1 aa1 bb1 pts1 k02 k12 k22 k32 k42 pts2 := by
  by_cases c : (0 ≤ pq ∧ pq ≤ nI pts - 1) ∧ (0 ≤ measure ∧ measure ≤ 5) ∧ ((-20) ≤ a ∧ a ≤ 20) ∧ (1 ≤ b ∧ b ≤ 20) ∧ (0 ≤ way ∧ way ≤ 1)
  · rw [if_pos c] at h1 h2
    by_cases c2 : pts < 20
    · rw [if_pos c2] at h1 h2
      obtain ⟨rfl, rfl, rfl, rfl, rfl, rfl, rfl⟩ := h1
      obtain ⟨rfl, rfl, rfl, rfl, rfl, rfl, rfl⟩ := h2
      have n0 : ¬ (if way = 0 then (2 : Int32) else 3) = 0 := by split <;> decide
      have n1 : ¬ (if way = 0 then (2 : Int32) else 3) = 1 := by split <;> decide
      have n2 : (if way = 0 then (2 : Int32) else 3) = 2 ∨ (if way = 0 then (2 : Int32) else 3) = 3 := by split <;> decide
      have hb : 1 ≤ b.toInt ∧ b.toInt ≤ 20 := jx_rg (by decide) (by decide) c.2.2.2.1
      exact ⟨rfl, by omega, jPP_u g c2 (by rw [if_neg n0]) (by rw [if_neg n0, if_neg n1]) (by rw [if_neg n0, if_neg n1]) (by rw [if_neg n0, if_neg n1]) (Or.inr (Or.inr (Or.inl ⟨n2, kx_has c.1 (by omega), jx_me c.2.1, jx_abs20 c.2.2.1, hb.1⟩)))⟩
    · rw [if_neg c2] at h1 h2
      obtain ⟨rfl, rfl, rfl, rfl, rfl, rfl, rfl⟩ := h1
      obtain ⟨rfl, rfl, rfl, rfl, rfl, rfl, rfl⟩ := h2
      exact ⟨rfl, Nat.le_refl _, g⟩
  · rw [if_neg c] at h1 h2
    obtain ⟨rfl, rfl, rfl, rfl, rfl, rfl, rfl⟩ := h1
    obtain ⟨rfl, rfl, rfl, rfl, rfl, rfl, rfl⟩ := h2
    exact ⟨rfl, Nat.le_refl _, g⟩
theorem lj_middle {kd ba ot aa bb kd1 ba1 ot1 aa1 bb1 k02 k12 k22 k32 k42 : Nat → Int32} {pts pts1 pts2 : Nat} {pq qq r1 r2 : Int32} (g : jPP kd ba ot aa bb pts kd (jK1 kd ba aa) (jK2 kd ot aa bb) (jK3 kd aa bb) (jK4 kd bb) pts) (h1 : if (0 ≤ pq ∧ pq ≤ nI pts - 1) ∧ (0 ≤ qq ∧ qq ≤ nI pts - 1) then (if pts < 20 then r1 = nI pts ∧ kd1 = upd kd pts 4 ∧ ba1 = upd ba pts pq ∧ ot1 = upd ot pts qq ∧ aa1 = upd aa pts 0 ∧ bb1 = upd bb pts 0 ∧ pts1 = pts + 1 else r1 = -4 ∧ kd1 = kd ∧ ba1 = ba ∧ ot1 = ot ∧ aa1 = aa ∧ bb1 = bb ∧ pts1 = pts) else (r1 = -2 ∧ kd1 = kd ∧ ba1 = ba ∧ ot1 = ot ∧ aa1 = aa ∧ bb1 = bb ∧ pts1 = pts)) (h2 : if (0 ≤ pq ∧ pq ≤ nI pts - 1) ∧ (0 ≤ qq ∧ qq ≤ nI pts - 1) then (if pts < 20 then r2 = nI pts ∧ k02 = upd kd pts 4 ∧ k12 = upd (jK1 kd ba aa) pts pq ∧ k22 = upd (jK2 kd ot aa bb) pts qq ∧ k32 = upd (jK3 kd aa bb) pts 0 ∧ k42 = upd (jK4 kd bb) pts 0 ∧ pts2 = pts + 1 else r2 = -4 ∧ k02 = kd ∧ k12 = (jK1 kd ba aa) ∧ k22 = (jK2 kd ot aa bb) ∧ k32 = (jK3 kd aa bb) ∧ k42 = (jK4 kd bb) ∧ pts2 = pts) else (r2 = -2 ∧ k02 = kd ∧ k12 = (jK1 kd ba aa) ∧ k22 = (jK2 kd ot aa bb) ∧ k32 = (jK3 kd aa bb) ∧ k42 = (jK4 kd bb) ∧ pts2 = pts)) : r1 = r2 ∧ pts ≤ pts1 ∧ jPP kd1 ba1 ot1 aa1 bb1 pts1 k02 k12 k22 k32 k42 pts2 := by
  by_cases c : (0 ≤ pq ∧ pq ≤ nI pts - 1) ∧ (0 ≤ qq ∧ qq ≤ nI pts - 1)
  · rw [if_pos c] at h1 h2
    by_cases c2 : pts < 20
    · rw [if_pos c2] at h1 h2
      obtain ⟨rfl, rfl, rfl, rfl, rfl, rfl, rfl⟩ := h1
      obtain ⟨rfl, rfl, rfl, rfl, rfl, rfl, rfl⟩ := h2
      exact ⟨rfl, by omega, jPP_u g c2 rfl rfl rfl rfl (Or.inr (Or.inr (Or.inr ⟨rfl, kx_has c.1 (by omega), kx_has c.2 (by omega)⟩)))⟩
    · rw [if_neg c2] at h1 h2
      obtain ⟨rfl, rfl, rfl, rfl, rfl, rfl, rfl⟩ := h1
      obtain ⟨rfl, rfl, rfl, rfl, rfl, rfl, rfl⟩ := h2
      exact ⟨rfl, Nat.le_refl _, g⟩
  · rw [if_neg c] at h1 h2
    obtain ⟨rfl, rfl, rfl, rfl, rfl, rfl, rfl⟩ := h1
    obtain ⟨rfl, rfl, rfl, rfl, rfl, rfl, rfl⟩ := h2
    exact ⟨rfl, Nat.le_refl _, g⟩
theorem jCC_m {szs joi cor szs2 joi2 cor2 : Nat → Int32} {pcs sms pcs2 sms2 : Nat} {sn jn : Nat → Nat} {pts pts1 : Nat} (h : pts ≤ pts1) (g : jCC szs joi cor pcs sms szs2 joi2 cor2 pcs2 sms2 sn jn pts) : jCC szs joi cor pcs sms szs2 joi2 cor2 pcs2 sms2 sn jn pts1 := by
  obtain ⟨g0, g1, g2, g3, g4⟩ := g
  refine ⟨g0, g1, g2, fun k hk => ?_, g4⟩
  obtain ⟨a, b, c⟩ := g3 k hk
  exact ⟨a, b, fun i hi => by obtain ⟨d, hd, e⟩ := c i hi; exact ⟨d, by omega, e⟩⟩
/-! at -/
theorem jXX {hd bd ms dy vl hbt : Nat → Int32} {told : Nat} {kd ba ot aa bb : Nat → Int32} {pts : Nat} (gT : jTT hd bd ms dy vl hbt told hd bd ms dy vl hbt told) (gP : jPP kd ba ot aa bb pts kd (jK1 kd ba aa) (jK2 kd ot aa bb) (jK3 kd aa bb) (jK4 kd bb) pts) (body : Int32) (bm xx xm : Nat → Int32) : ∀ p, p < pts → mXs kd (jK1 kd ba aa) (jK2 kd ot aa bb) (jK3 kd aa bb) (jK4 kd bb) (kLat20 hd bd ms dy vl hbt told body) xm pts p = kXs kd ba ot aa bb (kBMu hd bd ms dy vl hbt told body bm 6) xx pts p :=
  jX_eq gP.2.2 gP.2.1 (fun j hj => by rw [kLat_eq (fun i hi => (gT.2.2.2.1 i hi).2), kBMu_at 6 hj]) pts (Nat.le_refl _)
theorem jYY {hd bd ms dy vl hbt : Nat → Int32} {told : Nat} {kd ba ot aa bb : Nat → Int32} {pts : Nat} (gT : jTT hd bd ms dy vl hbt told hd bd ms dy vl hbt told) (gP : jPP kd ba ot aa bb pts kd (jK1 kd ba aa) (jK2 kd ot aa bb) (jK3 kd aa bb) (jK4 kd bb) pts) (body : Int32) (bm yy ym : Nat → Int32) : ∀ p, p < pts → mYs kd (jK1 kd ba aa) (jK2 kd ot aa bb) (jK3 kd aa bb) (jK4 kd bb) (kLat20 hd bd ms dy vl hbt told body) ym pts p = kYs kd ba ot aa bb (kBMu hd bd ms dy vl hbt told body bm 6) yy pts p :=
  jY_eq gP.2.2 gP.2.1 (fun j hj => by rw [kLat_eq (fun i hi => (gT.2.2.2.1 i hi).2), kBMu_at 6 hj]) pts (Nat.le_refl _)
theorem jXB {hd bd ms dy vl hbt : Nat → Int32} {told : Nat} {kd ba ot aa bb : Nat → Int32} {pts : Nat} (gT : jTT hd bd ms dy vl hbt told hd bd ms dy vl hbt told) (gP : jPP kd ba ot aa bb pts kd (jK1 kd ba aa) (jK2 kd ot aa bb) (jK3 kd aa bb) (jK4 kd bb) pts) (body : Int32) (bm xx : Nat → Int32) : ∀ p, p < pts → (kXs kd ba ot aa bb (kBMu hd bd ms dy vl hbt told body bm 6) xx pts p).toInt.natAbs ≤ 61000 * (p + 1) :=
  jX_b gP.2.2 gP.2.1 (fun j hj => by rw [kBMu_at 6 hj]; exact kLatest_b gT.2.1 gT.2.2.2.2.1 gT.2.2.2.2.2) pts (Nat.le_refl _)
theorem jYB {hd bd ms dy vl hbt : Nat → Int32} {told : Nat} {kd ba ot aa bb : Nat → Int32} {pts : Nat} (gT : jTT hd bd ms dy vl hbt told hd bd ms dy vl hbt told) (gP : jPP kd ba ot aa bb pts kd (jK1 kd ba aa) (jK2 kd ot aa bb) (jK3 kd aa bb) (jK4 kd bb) pts) (body : Int32) (bm yy : Nat → Int32) : ∀ p, p < pts → (kYs kd ba ot aa bb (kBMu hd bd ms dy vl hbt told body bm 6) yy pts p).toInt.natAbs ≤ 61000 * (p + 1) :=
  jY_b gP.2.2 gP.2.1 (fun j hj => by rw [kBMu_at 6 hj]; exact kLatest_b gT.2.1 gT.2.2.2.2.1 gT.2.2.2.2.2) pts (Nat.le_refl _)
theorem lj_at {hd bd ms dy vl hbt : Nat → Int32} {told : Nat} {kd ba ot aa bb bm xx yy xm ym bm1 xx1 yy1 xx2 yy2 : Nat → Int32} {pts : Nat} {body pq what r1 r2 : Int32} (gT : jTT hd bd ms dy vl hbt told hd bd ms dy vl hbt told) (gP : jPP kd ba ot aa bb pts kd (jK1 kd ba aa) (jK2 kd ot aa bb) (jK3 kd aa bb) (jK4 kd bb) pts) (h1 : if (0 ≤ body ∧ body ≤ 5) ∧ (0 ≤ pq ∧ pq ≤ nI pts - 1) ∧ (0 ≤ what ∧ what ≤ 1) then (r1 = (if what = 0 then xx1 pq.toNatClampNeg else yy1 pq.toNatClampNeg) ∧ kBMu hd bd ms dy vl hbt told body bm 6 = bm1 ∧ kXs kd ba ot aa bb (kBMu hd bd ms dy vl hbt told body bm 6) xx pts = xx1 ∧ kYs kd ba ot aa bb (kBMu hd bd ms dy vl hbt told body bm 6) yy pts = yy1) else (r1 = (-2000000000) ∧ bm1 = bm ∧ xx1 = xx ∧ yy1 = yy)) (h2 : if (0 ≤ body ∧ body ≤ 5) ∧ (0 ≤ pq ∧ pq ≤ nI pts - 1) ∧ (0 ≤ what ∧ what ≤ 1) then (r2 = (if what = 0 then xx2 pq.toNatClampNeg else yy2 pq.toNatClampNeg) ∧ mXs kd (jK1 kd ba aa) (jK2 kd ot aa bb) (jK3 kd aa bb) (jK4 kd bb) (kLat20 hd bd ms dy vl hbt told body) xm pts = xx2 ∧ mYs kd (jK1 kd ba aa) (jK2 kd ot aa bb) (jK3 kd aa bb) (jK4 kd bb) (kLat20 hd bd ms dy vl hbt told body) ym pts = yy2) else (r2 = (-2000000000) ∧ xx2 = xm ∧ yy2 = ym)) : r1 = r2 := by
  by_cases c : (0 ≤ body ∧ body ≤ 5) ∧ (0 ≤ pq ∧ pq ≤ nI pts - 1) ∧ (0 ≤ what ∧ what ≤ 1)
  · rw [if_pos c] at h1 h2
    obtain ⟨a1, _, a3, a4⟩ := h1
    obtain ⟨b1, b2, b3⟩ := h2
    have hp := kx_hasin2 c.2.1 (by have := gP.2.1; omega)
    rw [a1, b1]
    by_cases w : what = 0
    · rw [if_pos w, if_pos w, ← a3, ← b2]
      exact (jXX gT gP body bm xx xm _ hp).symm
    · rw [if_neg w, if_neg w, ← a4, ← b3]
      exact (jYY gT gP body bm yy ym _ hp).symm
  · rw [if_neg c] at h1 h2
    rw [h1.1, h2.1]
