/-! lengths, areas, gaps, hangs -/
theorem lj_length {hd bd ms dy vl hbt : Nat → Int32} {told : Nat} {kd ba ot aa bb bm xx yy xm ym bm1 xx1 yy1 xx2 yy2 cor : Nat → Int32} {pts pcs sms : Nat} {sn jn : Nat → Nat} {body pq wq r1 r2 : Int32} (gT : jTT hd bd ms dy vl hbt told hd bd ms dy vl hbt told) (gP : jPP kd ba ot aa bb pts kd (jK1 kd ba aa) (jK2 kd ot aa bb) (jK3 kd aa bb) (jK4 kd bb) pts) (gC : jCC (fun k => nI (sn k)) (fun k => nI (jn k)) cor pcs sms (fun k => nI (sn k)) (fun k => nI (jn k)) cor pcs sms sn jn pts) (h1 : if (0 ≤ body ∧ body ≤ 5) ∧ ((0 ≤ pq ∧ pq ≤ nI pcs - 1) ∧ 0 ≤ wq ∧ wq ≤ nI (sn pq.toNatClampNeg) - 1) then (r1 = kLen xx1 yy1 cor sn pq.toNatClampNeg wq.toNatClampNeg ∧ kBMu hd bd ms dy vl hbt told body bm 6 = bm1 ∧ kXs kd ba ot aa bb (kBMu hd bd ms dy vl hbt told body bm 6) xx pts = xx1 ∧ kYs kd ba ot aa bb (kBMu hd bd ms dy vl hbt told body bm 6) yy pts = yy1) else (r1 = -2 ∧ bm1 = bm ∧ xx1 = xx ∧ yy1 = yy)) (h2 : if (0 ≤ body ∧ body ≤ 5) ∧ ((0 ≤ pq ∧ pq ≤ nI pcs - 1) ∧ 0 ≤ wq ∧ wq ≤ nI (sn pq.toNatClampNeg) - 1) then (r2 = mLen xx2 yy2 cor sn pq.toNatClampNeg wq.toNatClampNeg ∧ mXs kd (jK1 kd ba aa) (jK2 kd ot aa bb) (jK3 kd aa bb) (jK4 kd bb) (kLat20 hd bd ms dy vl hbt told body) xm pts = xx2 ∧ mYs kd (jK1 kd ba aa) (jK2 kd ot aa bb) (jK3 kd aa bb) (jK4 kd bb) (kLat20 hd bd ms dy vl hbt told body) ym pts = yy2) else (r2 = -2 ∧ xx2 = xm ∧ yy2 = ym)) : r1 = r2 := by
  by_cases c : (0 ≤ body ∧ body ≤ 5) ∧ ((0 ≤ pq ∧ pq ≤ nI pcs - 1) ∧ 0 ≤ wq ∧ wq ≤ nI (sn pq.toNatClampNeg) - 1)
  · rw [if_pos c] at h1 h2
    obtain ⟨a1, _, a3, a4⟩ := h1
    obtain ⟨b1, b2, b3⟩ := h2
    have hp := kx_hasin2 c.2.1 (by have := gC.2.1; omega)
    have h8 := (gC.2.2.2.1 _ hp).2.1
    have hi := kx_hasin2 c.2.2 (by omega)
    obtain ⟨r, _, e1, e2⟩ := jLen (x1 := xx1) (y1 := yy1) (x2 := xx2) (y2 := yy2) gP.2.1 (by rw [← a3, ← b2]; exact jXX gT gP body bm xx xm) (by rw [← a4, ← b3]; exact jYY gT gP body bm yy ym) (by rw [← a3]; exact jXB gT gP body bm xx) (by rw [← a4]; exact jYB gT gP body bm yy) (gC.2.2.2.1 _ hp).2.2 hi
    rw [a1, b1, e1, e2]
  · rw [if_neg c] at h1 h2
    rw [h1.1, h2.1]
theorem lj_area {hd bd ms dy vl hbt : Nat → Int32} {told : Nat} {kd ba ot aa bb bm xx yy xm ym bm1 xx1 yy1 xx2 yy2 cor : Nat → Int32} {pts pcs sms : Nat} {sn jn : Nat → Nat} {body pq : Int32} {r1 r2 : Int64} (gT : jTT hd bd ms dy vl hbt told hd bd ms dy vl hbt told) (gP : jPP kd ba ot aa bb pts kd (jK1 kd ba aa) (jK2 kd ot aa bb) (jK3 kd aa bb) (jK4 kd bb) pts) (gC : jCC (fun k => nI (sn k)) (fun k => nI (jn k)) cor pcs sms (fun k => nI (sn k)) (fun k => nI (jn k)) cor pcs sms sn jn pts) (h1 : if (0 ≤ body ∧ body ≤ 5) ∧ (0 ≤ pq ∧ pq ≤ nI pcs - 1) then (r1 = kArea xx1 yy1 cor sn pq.toNatClampNeg ∧ kBMu hd bd ms dy vl hbt told body bm 6 = bm1 ∧ kXs kd ba ot aa bb (kBMu hd bd ms dy vl hbt told body bm 6) xx pts = xx1 ∧ kYs kd ba ot aa bb (kBMu hd bd ms dy vl hbt told body bm 6) yy pts = yy1) else (r1 = (-2) ∧ bm1 = bm ∧ xx1 = xx ∧ yy1 = yy)) (h2 : if (0 ≤ body ∧ body ≤ 5) ∧ (0 ≤ pq ∧ pq ≤ nI pcs - 1) then (r2 = mArea xx2 yy2 cor sn pq.toNatClampNeg ∧ mXs kd (jK1 kd ba aa) (jK2 kd ot aa bb) (jK3 kd aa bb) (jK4 kd bb) (kLat20 hd bd ms dy vl hbt told body) xm pts = xx2 ∧ mYs kd (jK1 kd ba aa) (jK2 kd ot aa bb) (jK3 kd aa bb) (jK4 kd bb) (kLat20 hd bd ms dy vl hbt told body) ym pts = yy2) else (r2 = (-2) ∧ xx2 = xm ∧ yy2 = ym)) : r1 = r2 := by
  by_cases c : (0 ≤ body ∧ body ≤ 5) ∧ (0 ≤ pq ∧ pq ≤ nI pcs - 1)
  · rw [if_pos c] at h1 h2
    obtain ⟨a1, _, a3, a4⟩ := h1
    obtain ⟨b1, b2, b3⟩ := h2
    have hp := kx_hasin2 c.2 (by have := gC.2.1; omega)
    rw [a1, b1, jArea (x1 := xx1) (y1 := yy1) (x2 := xx2) (y2 := yy2) gP.2.1 (by rw [← a3, ← b2]; exact jXX gT gP body bm xx xm) (by rw [← a4, ← b3]; exact jYY gT gP body bm yy ym) (gC.2.2.2.1 _ hp).2.2]
  · rw [if_neg c] at h1 h2
    rw [h1.1, h2.1]
theorem lj_gaps {hd bd ms dy vl hbt : Nat → Int32} {told : Nat} {kd ba ot aa bb bm xx yy xm ym bm1 xx1 yy1 xx2 yy2 cor : Nat → Int32} {pts pcs sms : Nat} {sn jn : Nat → Nat} {body al r1 r2 : Int32} (gT : jTT hd bd ms dy vl hbt told hd bd ms dy vl hbt told) (gP : jPP kd ba ot aa bb pts kd (jK1 kd ba aa) (jK2 kd ot aa bb) (jK3 kd aa bb) (jK4 kd bb) pts) (gC : jCC (fun k => nI (sn k)) (fun k => nI (jn k)) cor pcs sms (fun k => nI (sn k)) (fun k => nI (jn k)) cor pcs sms sn jn pts) (h1 : if (0 ≤ body ∧ body ≤ 5) ∧ (0 ≤ al ∧ al ≤ 100) then (r1 = kGap xx1 yy1 cor sn jn al sms ∧ kBMu hd bd ms dy vl hbt told body bm 6 = bm1 ∧ kXs kd ba ot aa bb (kBMu hd bd ms dy vl hbt told body bm 6) xx pts = xx1 ∧ kYs kd ba ot aa bb (kBMu hd bd ms dy vl hbt told body bm 6) yy pts = yy1) else (r1 = -2 ∧ bm1 = bm ∧ xx1 = xx ∧ yy1 = yy)) (h2 : if (0 ≤ body ∧ body ≤ 5) ∧ (0 ≤ al ∧ al ≤ 100) then (r2 = mGap xx2 yy2 cor sn jn al sms ∧ mXs kd (jK1 kd ba aa) (jK2 kd ot aa bb) (jK3 kd aa bb) (jK4 kd bb) (kLat20 hd bd ms dy vl hbt told body) xm pts = xx2 ∧ mYs kd (jK1 kd ba aa) (jK2 kd ot aa bb) (jK3 kd aa bb) (jK4 kd bb) (kLat20 hd bd ms dy vl hbt told body) ym pts = yy2) else (r2 = -2 ∧ xx2 = xm ∧ yy2 = ym)) : r1 = r2 := by
  by_cases c : (0 ≤ body ∧ body ≤ 5) ∧ (0 ≤ al ∧ al ≤ 100)
  · rw [if_pos c] at h1 h2
    obtain ⟨a1, _, a3, a4⟩ := h1
    obtain ⟨b1, b2, b3⟩ := h2
    have ha : 0 ≤ al.toInt ∧ al.toInt ≤ 100 := jx_rg (by decide) (by decide) c.2
    rw [a1, b1, jGap (x1 := xx1) (y1 := yy1) (x2 := xx2) (y2 := yy2) (m := sms) (fun i hi => jGp_i (pcs := pcs) gP.2.1 (by rw [← a3, ← b2]; exact jXX gT gP body bm xx xm) (by rw [← a4, ← b3]; exact jYY gT gP body bm yy ym) (by rw [← a3]; exact jXB gT gP body bm xx) (by rw [← a4]; exact jYB gT gP body bm yy) (fun k hk => (gC.2.2.2.1 k hk).2.2) ha.1 ha.2 (gC.2.2.2.2 i hi)) sms (Nat.le_refl _)]
  · rw [if_neg c] at h1 h2
    rw [h1.1, h2.1]
theorem lj_hangs {kd ba ot aa bb cor : Nat → Int32} {pts pcs : Nat} {sn : Nat → Nat} {measure what : Int32} (gP : jPP kd ba ot aa bb pts kd (jK1 kd ba aa) (jK2 kd ot aa bb) (jK3 kd aa bb) (jK4 kd bb) pts) (hpc : pcs ≤ 7) : (if (0 ≤ measure ∧ measure ≤ 5) ∧ (0 ≤ what ∧ what ≤ 1) then (if what = 0 then kPO kd ba ot measure pts else kPW cor sn (kPO kd ba ot measure pts) pcs) else -2) = (if (0 ≤ measure ∧ measure ≤ 5) ∧ (0 ≤ what ∧ what ≤ 1) then (if what = 0 then mPO kd (jK1 kd ba aa) (jK2 kd ot aa bb) measure pts else mPW cor sn (mPO kd (jK1 kd ba aa) (jK2 kd ot aa bb) measure pts) pcs) else -2) := by
  rw [jPO gP.2.2 pts (Nat.le_refl _), jPW pcs hpc]
theorem lj_cloth {wd ck wd1 ck1 wd2 ck2 : Nat} {w ch r1 r2 : Int32} (g : jWW wd ck wd ck) (h1 : if (1 ≤ w ∧ w ≤ 5000) ∧ (1 ≤ ch ∧ ch ≤ 500) then (r1 = 1 ∧ wd1 = w.toNatClampNeg ∧ ck1 = ch.toNatClampNeg) else (r1 = -2 ∧ wd1 = wd ∧ ck1 = ck)) (h2 : if (1 ≤ w ∧ w ≤ 5000) ∧ (1 ≤ ch ∧ ch ≤ 500) then (r2 = 1 ∧ wd2 = w.toNatClampNeg ∧ ck2 = ch.toNatClampNeg) else (r2 = -2 ∧ wd2 = wd ∧ ck2 = ck)) : r1 = r2 ∧ jWW wd1 ck1 wd2 ck2 := by
  by_cases c : (1 ≤ w ∧ w ≤ 5000) ∧ (1 ≤ ch ∧ ch ≤ 500)
  · rw [if_pos c] at h1 h2
    obtain ⟨rfl, rfl, rfl⟩ := h1
    obtain ⟨rfl, rfl, rfl⟩ := h2
    obtain ⟨a, ha, rfl⟩ := kx_rg (a := 1) (b := 5000) (by decide) c.1
    obtain ⟨b, hb, rfl⟩ := kx_rg (a := 1) (b := 500) (by decide) c.2
    rw [nI_clamp (by omega), nI_clamp (by omega)]
    exact ⟨rfl, ⟨rfl, rfl⟩, ha.2, hb⟩
  · rw [if_neg c] at h1 h2
    obtain ⟨rfl, rfl, rfl⟩ := h1
    obtain ⟨rfl, rfl, rfl⟩ := h2
    exact ⟨rfl, g⟩
/-! laid -/
theorem jRY {hd bd ms dy vl hbt : Nat → Int32} {told : Nat} {kd ba ot aa bb cor : Nat → Int32} {pts pcs sms : Nat} {sn jn : Nat → Nat} (gT : jTT hd bd ms dy vl hbt told hd bd ms dy vl hbt told) (gP : jPP kd ba ot aa bb pts kd (jK1 kd ba aa) (jK2 kd ot aa bb) (jK3 kd aa bb) (jK4 kd bb) pts) (gC : jCC (fun k => nI (sn k)) (fun k => nI (jn k)) cor pcs sms (fun k => nI (sn k)) (fun k => nI (jn k)) cor pcs sms sn jn pts) (body : Int32) (bm yy ym : Nat → Int32) : ∀ k, k < pcs → mRoom (mYs kd (jK1 kd ba aa) (jK2 kd ot aa bb) (jK3 kd aa bb) (jK4 kd bb) (kLat20 hd bd ms dy vl hbt told body) ym pts) cor sn k = kRoom (kYs kd ba ot aa bb (kBMu hd bd ms dy vl hbt told body bm 6) yy pts) cor sn k ∧ (kRoom (kYs kd ba ot aa bb (kBMu hd bd ms dy vl hbt told body bm 6) yy pts) cor sn k).toNatClampNeg ≤ 3000000 := fun k hk =>
  jRoom gP.2.1 (jYY gT gP body bm yy ym) (jYB gT gP body bm yy) (gC.2.2.2.1 k hk).2.2 (gC.2.2.2.1 k hk).1
theorem jRX {hd bd ms dy vl hbt : Nat → Int32} {told : Nat} {kd ba ot aa bb cor : Nat → Int32} {pts pcs sms : Nat} {sn jn : Nat → Nat} (gT : jTT hd bd ms dy vl hbt told hd bd ms dy vl hbt told) (gP : jPP kd ba ot aa bb pts kd (jK1 kd ba aa) (jK2 kd ot aa bb) (jK3 kd aa bb) (jK4 kd bb) pts) (gC : jCC (fun k => nI (sn k)) (fun k => nI (jn k)) cor pcs sms (fun k => nI (sn k)) (fun k => nI (jn k)) cor pcs sms sn jn pts) (body : Int32) (bm xx xm : Nat → Int32) : ∀ k, k < pcs → mRoom (mXs kd (jK1 kd ba aa) (jK2 kd ot aa bb) (jK3 kd aa bb) (jK4 kd bb) (kLat20 hd bd ms dy vl hbt told body) xm pts) cor sn k = kRoom (kXs kd ba ot aa bb (kBMu hd bd ms dy vl hbt told body bm 6) xx pts) cor sn k ∧ (kRoom (kXs kd ba ot aa bb (kBMu hd bd ms dy vl hbt told body bm 6) xx pts) cor sn k).toNatClampNeg ≤ 3000000 := fun k hk =>
  jRoom gP.2.1 (jXX gT gP body bm xx xm) (jXB gT gP body bm xx) (gC.2.2.2.1 k hk).2.2 (gC.2.2.2.1 k hk).1
/-- laid, once the rooms are worked: the class's search and the reference's row -/
theorem jLaid {x1 y1 x2 y2 cor : Nat → Int32} {sn wm hm wn2 hn2 be2 : Nat → Nat} {od bo od1 bo1 : Nat → Int32} {pcs wd ck le1 : Nat} {r1 r2 : Int32} (h7 : pcs ≤ 7) (hwd : wd ≤ 5000) (hck : 1 ≤ ck ∧ ck ≤ 500) (hX : ∀ k, k < pcs → mRoom x2 cor sn k = kRoom x1 cor sn k) (hY : ∀ k, k < pcs → mRoom y2 cor sn k = kRoom y1 cor sn k ∧ (kRoom y1 cor sn k).toNatClampNeg ≤ 3000000) (ew : mWn x2 cor sn wm pcs = wn2) (eh : mWn y2 cor sn hm pcs = hn2)
    (h1 : if (∀ k, k < pcs → (kRoom x1 cor sn k).toNatClampNeg ≤ wd) then r1 = nI le1 ∧ (od1, bo1, le1) = kLay x1 y1 cor sn pcs wd ck od bo else r1 = -1)
    (h2 : if (∀ k, k < pcs → wn2 k ≤ wd) then r2 = nI (mBest wn2 hn2 wd ck pcs).1 ∧ (∀ i, i < pcs → be2 i = (mBest wn2 hn2 wd ck pcs).2 i) else r2 = -1) : r1 = r2 ∧ (r1 = -1 ∨ (∃ n : Nat, n ≤ 24003500 ∧ r1 = nI n ∧ ∀ i, i < pcs → bo1 i = nI (be2 i))) := by
  have e1 : ∀ k, k < pcs → (kRoom x1 cor sn k).toNatClampNeg = wn2 k := fun k hk => by rw [← ew, mWn_lt hk, hX k hk]
  have e2 : ∀ k, k < pcs → (kRoom y1 cor sn k).toNatClampNeg = hn2 k := fun k hk => by rw [← eh, mWn_lt hk, (hY k hk).1]
  by_cases c : ∀ k, k < pcs → wn2 k ≤ wd
  · rw [if_pos (fun k hk => by rw [e1 k hk]; exact c k hk)] at h1
    rw [if_pos c] at h2
    obtain ⟨a1, a2⟩ := h1
    obtain ⟨b1, b2⟩ := h2
    have hj := jLay (wn := wn2) (hn := hn2) (np := pcs) (wd := wd) (ck := ck) hck.1 c od bo
    have ek : kLay x1 y1 cor sn pcs wd ck od bo = kLN wn2 hn2 pcs wd ck pcs 0 0 0 0 (fun _ => 0) (od, bo, 2000000000) := kLN_c e1 e2 pcs 0 0 0 0 _ _
    rw [← ek, ← a2] at hj
    have hb := mBest_b (wn := wn2) (hn := hn2) (wd := wd) (ck := ck) h7 (fun k hk => Nat.le_trans (c k hk) hwd) (fun k hk => by rw [← e2 k hk]; exact (hY k hk).2) hck
    obtain ⟨j1, j2⟩ := hj
    have j1 : le1 = (mBest wn2 hn2 wd ck pcs).1 := j1
    refine ⟨by rw [a1, b1, j1], Or.inr ⟨le1, by rw [j1]; exact hb, a1, fun i hi => ?_⟩⟩
    rw [b2 i hi]
    exact j2 (by omega) i hi
  · rw [if_neg (fun h => c (fun k hk => by rw [← e1 k hk]; exact h k hk))] at h1
    rw [if_neg c] at h2
    exact ⟨by rw [h1, h2], Or.inl h1⟩
theorem lj_laid {hd bd ms dy vl hbt : Nat → Int32} {told : Nat} {kd ba ot aa bb bm xx yy xm ym bm1 xx1 yy1 xx2 yy2 cor zz zz1 od od1 bo bo1 : Nat → Int32} {pts pcs sms wd ck np np1 le le1 : Nat} {sn jn wn hn wn1 hn1 wm hm wn2 hn2 on on2 be be2 : Nat → Nat} {body r1 r2 : Int32} (gT : jTT hd bd ms dy vl hbt told hd bd ms dy vl hbt told) (gP : jPP kd ba ot aa bb pts kd (jK1 kd ba aa) (jK2 kd ot aa bb) (jK3 kd aa bb) (jK4 kd bb) pts) (gC : jCC (fun k => nI (sn k)) (fun k => nI (jn k)) cor pcs sms (fun k => nI (sn k)) (fun k => nI (jn k)) cor pcs sms sn jn pts) (gW : jWW wd ck wd ck) (h1 : if (0 ≤ body ∧ body ≤ 5) then (if pcs = 0 then r1 = -3 ∧ (bm1 = bm ∧ xx1 = xx ∧ yy1 = yy ∧ wn1 = wn ∧ hn1 = hn ∧ zz1 = zz ∧ od1 = od ∧ bo1 = bo ∧ np1 = np ∧ le1 = le) else (kBMu hd bd ms dy vl hbt told body bm 6 = bm1 ∧ kXs kd ba ot aa bb (kBMu hd bd ms dy vl hbt told body bm 6) xx pts = xx1 ∧ kYs kd ba ot aa bb (kBMu hd bd ms dy vl hbt told body bm 6) yy pts = yy1 ∧ if (∀ k, k < pcs → (kRoom xx1 cor sn k).toNatClampNeg ≤ wd) then r1 = nI le1 ∧ (od1, bo1, le1) = kLay xx1 yy1 cor sn pcs wd ck od bo else r1 = -1)) else r1 = -2 ∧ (bm1 = bm ∧ xx1 = xx ∧ yy1 = yy ∧ wn1 = wn ∧ hn1 = hn ∧ zz1 = zz ∧ od1 = od ∧ bo1 = bo ∧ np1 = np ∧ le1 = le)) (h2 : if (0 ≤ body ∧ body ≤ 5) then (if pcs = 0 then r2 = -3 ∧ xx2 = xm ∧ yy2 = ym ∧ wn2 = wm ∧ hn2 = hm ∧ on2 = on ∧ be2 = be else ((mXs kd (jK1 kd ba aa) (jK2 kd ot aa bb) (jK3 kd aa bb) (jK4 kd bb) (kLat20 hd bd ms dy vl hbt told body) xm pts = xx2 ∧ mYs kd (jK1 kd ba aa) (jK2 kd ot aa bb) (jK3 kd aa bb) (jK4 kd bb) (kLat20 hd bd ms dy vl hbt told body) ym pts = yy2 ∧ mWn xx2 cor sn wm pcs = wn2 ∧ mWn yy2 cor sn hm pcs = hn2) ∧ if (∀ k, k < pcs → wn2 k ≤ wd) then r2 = nI (mBest wn2 hn2 wd ck pcs).1 ∧ (∀ j9, j9 < pcs → be2 j9 = (mBest wn2 hn2 wd ck pcs).2 j9) else r2 = -1)) else r2 = -2 ∧ xx2 = xm ∧ yy2 = ym ∧ wn2 = wm ∧ hn2 = hm ∧ on2 = on ∧ be2 = be) : r1 = r2 := by
  by_cases c : 0 ≤ body ∧ body ≤ 5
  · rw [if_pos c] at h1 h2
    by_cases c0 : pcs = 0
    · rw [if_pos c0] at h1 h2
      rw [h1.1, h2.1]
    · rw [if_neg c0] at h1 h2
      obtain ⟨_, a3, a4, a5⟩ := h1
      obtain ⟨⟨b2, b3, b4, b5⟩, b6⟩ := h2
      exact (jLaid gC.2.1 gW.2.1 gW.2.2 (by rw [← a3, ← b2]; exact fun k hk => (jRX gT gP gC body bm xx xm k hk).1) (by rw [← a4, ← b3]; exact jRY gT gP gC body bm yy ym) b4 b5 a5 b6).1
  · rw [if_neg c] at h1 h2
    rw [h1.1, h2.1]
theorem lj_laidAt {hd bd ms dy vl hbt : Nat → Int32} {told : Nat} {kd ba ot aa bb bm xx yy xm ym bm1 xx1 yy1 xx2 yy2 cor zz zz1 od od1 bo bo1 : Nat → Int32} {pts pcs sms wd ck np np1 le le1 : Nat} {sn jn wn hn wn1 hn1 wm hm wn2 hn2 on on2 be be2 : Nat → Nat} {body i r1 r2 : Int32} (gT : jTT hd bd ms dy vl hbt told hd bd ms dy vl hbt told) (gP : jPP kd ba ot aa bb pts kd (jK1 kd ba aa) (jK2 kd ot aa bb) (jK3 kd aa bb) (jK4 kd bb) pts) (gC : jCC (fun k => nI (sn k)) (fun k => nI (jn k)) cor pcs sms (fun k => nI (sn k)) (fun k => nI (jn k)) cor pcs sms sn jn pts) (gW : jWW wd ck wd ck) (h1 : ∃ en : Int32, (if (0 ≤ body ∧ body ≤ 5) then (if pcs = 0 then en = -3 ∧ (bm1 = bm ∧ xx1 = xx ∧ yy1 = yy ∧ wn1 = wn ∧ hn1 = hn ∧ zz1 = zz ∧ od1 = od ∧ bo1 = bo ∧ np1 = np ∧ le1 = le) else (kBMu hd bd ms dy vl hbt told body bm 6 = bm1 ∧ kXs kd ba ot aa bb (kBMu hd bd ms dy vl hbt told body bm 6) xx pts = xx1 ∧ kYs kd ba ot aa bb (kBMu hd bd ms dy vl hbt told body bm 6) yy pts = yy1 ∧ if (∀ k, k < pcs → (kRoom xx1 cor sn k).toNatClampNeg ≤ wd) then en = nI le1 ∧ (od1, bo1, le1) = kLay xx1 yy1 cor sn pcs wd ck od bo else en = -1)) else en = -2 ∧ (bm1 = bm ∧ xx1 = xx ∧ yy1 = yy ∧ wn1 = wn ∧ hn1 = hn ∧ zz1 = zz ∧ od1 = od ∧ bo1 = bo ∧ np1 = np ∧ le1 = le)) ∧ r1 = (if en < 0 then en else if 0 ≤ i ∧ i ≤ nI pcs - 1 then bo1 i.toNatClampNeg else -1)) (h2 : if (0 ≤ body ∧ body ≤ 5) then (if pcs = 0 then r2 = -3 ∧ xx2 = xm ∧ yy2 = ym ∧ wn2 = wm ∧ hn2 = hm ∧ on2 = on ∧ be2 = be else ∃ ev : Int32, ((mXs kd (jK1 kd ba aa) (jK2 kd ot aa bb) (jK3 kd aa bb) (jK4 kd bb) (kLat20 hd bd ms dy vl hbt told body) xm pts = xx2 ∧ mYs kd (jK1 kd ba aa) (jK2 kd ot aa bb) (jK3 kd aa bb) (jK4 kd bb) (kLat20 hd bd ms dy vl hbt told body) ym pts = yy2 ∧ mWn xx2 cor sn wm pcs = wn2 ∧ mWn yy2 cor sn hm pcs = hn2) ∧ if (∀ k, k < pcs → wn2 k ≤ wd) then ev = nI (mBest wn2 hn2 wd ck pcs).1 ∧ (∀ j9, j9 < pcs → be2 j9 = (mBest wn2 hn2 wd ck pcs).2 j9) else ev = -1) ∧ r2 = (if ev = -1 ∨ ¬ (0 ≤ i ∧ i ≤ nI pcs - 1) then -1 else nI (be2 i.toNatClampNeg))) else r2 = -2 ∧ xx2 = xm ∧ yy2 = ym ∧ wn2 = wm ∧ hn2 = hm ∧ on2 = on ∧ be2 = be) : r1 = r2 := by
  obtain ⟨en, h1, h3⟩ := h1
  by_cases c : 0 ≤ body ∧ body ≤ 5
  · rw [if_pos c] at h1 h2
    by_cases c0 : pcs = 0
    · rw [if_pos c0] at h1 h2
      rw [h3, h1.1, h2.1, if_pos (by decide)]
    · rw [if_neg c0] at h1 h2
      obtain ⟨_, a3, a4, a5⟩ := h1
      obtain ⟨ev, ⟨⟨b2, b3, b4, b5⟩, b6⟩, h4⟩ := h2
      obtain ⟨e1, e2⟩ := jLaid gC.2.1 gW.2.1 gW.2.2 (by rw [← a3, ← b2]; exact fun k hk => (jRX gT gP gC body bm xx xm k hk).1) (by rw [← a4, ← b3]; exact jRY gT gP gC body bm yy ym) b4 b5 a5 b6
      subst e1
      rw [h3, h4]
      rcases e2 with q | ⟨n, hn1, q, hb⟩
      · rw [q, if_pos (by decide), if_pos (Or.inl rfl)]
      · have hp : ¬ en < 0 := by rw [q]; exact nI_pos (by omega)
        have hm : ¬ en = -1 := fun w => hp (by rw [w]; decide)
        rw [if_neg hp]
        by_cases ci : 0 ≤ i ∧ i ≤ nI pcs - 1
        · rw [if_pos ci, if_neg (fun w => w.elim hm (fun w => w ci))]
          exact hb _ (kx_hasin2 ci (by have := gC.2.1; omega))
        · rw [if_neg ci, if_pos (Or.inr ci)]
  · rw [if_neg c] at h1 h2
    rw [h3, h1.1, h2.1, if_pos (by decide)]
/-! coats -/
theorem juN {P : Nat → Prop} {f : Nat → Nat} {n v : Nat} (h : ∀ i, i < n → P (f i)) (hv : P v) : ∀ i, i < n + 1 → P (updN f n v i) := fun i hi => by
  unfold updN
  by_cases e : i = n
  · rw [if_pos e]; exact hv
  · rw [if_neg e]; exact h i (by omega)
theorem lj_coat {cu se fi pr cu1 se1 fi1 pr1 cu2 se2 fi2 pr2 : Nat → Nat} {nc nc1 nc2 : Nat} {a b cx d r1 r2 : Int32} (g : jNN cu se fi pr nc cu se fi pr nc) (h1 : if (1 ≤ a ∧ a ≤ 50) ∧ (1 ≤ b ∧ b ≤ 50) ∧ (1 ≤ cx ∧ cx ≤ 50) ∧ (0 ≤ d ∧ d ≤ 1000) then (if nc < 6 then r1 = nI nc ∧ cu1 = updN cu nc a.toNatClampNeg ∧ se1 = updN se nc b.toNatClampNeg ∧ fi1 = updN fi nc cx.toNatClampNeg ∧ pr1 = updN pr nc d.toNatClampNeg ∧ nc1 = nc + 1 else r1 = -4 ∧ cu1 = cu ∧ se1 = se ∧ fi1 = fi ∧ pr1 = pr ∧ nc1 = nc) else (r1 = -2 ∧ cu1 = cu ∧ se1 = se ∧ fi1 = fi ∧ pr1 = pr ∧ nc1 = nc)) (h2 : if (1 ≤ a ∧ a ≤ 50) ∧ (1 ≤ b ∧ b ≤ 50) ∧ (1 ≤ cx ∧ cx ≤ 50) ∧ (0 ≤ d ∧ d ≤ 1000) then (if nc < 6 then r2 = nI nc ∧ cu2 = updN cu nc a.toNatClampNeg ∧ se2 = updN se nc b.toNatClampNeg ∧ fi2 = updN fi nc cx.toNatClampNeg ∧ pr2 = updN pr nc d.toNatClampNeg ∧ nc2 = nc + 1 else r2 = -4 ∧ cu2 = cu ∧ se2 = se ∧ fi2 = fi ∧ pr2 = pr ∧ nc2 = nc) else (r2 = -2 ∧ cu2 = cu ∧ se2 = se ∧ fi2 = fi ∧ pr2 = pr ∧ nc2 = nc)) : r1 = r2 ∧ jNN cu1 se1 fi1 pr1 nc1 cu2 se2 fi2 pr2 nc2 := by
  by_cases c : (1 ≤ a ∧ a ≤ 50) ∧ (1 ≤ b ∧ b ≤ 50) ∧ (1 ≤ cx ∧ cx ≤ 50) ∧ (0 ≤ d ∧ d ≤ 1000)
  · rw [if_pos c] at h1 h2
    by_cases c2 : nc < 6
    · rw [if_pos c2] at h1 h2
      obtain ⟨rfl, rfl, rfl, rfl, rfl, rfl⟩ := h1
      obtain ⟨rfl, rfl, rfl, rfl, rfl, rfl⟩ := h2
      obtain ⟨-, g1, g2⟩ := g
      obtain ⟨a', ha, rfl⟩ := kx_rg (a := 1) (b := 50) (by decide) c.1
      obtain ⟨b', hb, rfl⟩ := kx_rg (a := 1) (b := 50) (by decide) c.2.1
      obtain ⟨c', hc, rfl⟩ := kx_rg (a := 1) (b := 50) (by decide) c.2.2.1
      obtain ⟨d', hd, rfl⟩ := kx_rg (a := 0) (b := 1000) (by decide) c.2.2.2
      rw [nI_clamp (by omega), nI_clamp (by omega), nI_clamp (by omega), nI_clamp (by omega)]
      refine ⟨rfl, ⟨rfl, rfl, rfl, rfl, rfl⟩, by omega, fun k hk => ⟨?_, ?_, ?_, ?_⟩⟩
      · exact juN (P := fun x => x ≤ 50) (fun i hi => (g2 i hi).1) ha.2 k hk
      · exact juN (P := fun x => x ≤ 50) (fun i hi => (g2 i hi).2.1) hb.2 k hk
      · exact juN (P := fun x => x ≤ 50) (fun i hi => (g2 i hi).2.2.1) hc.2 k hk
      · exact juN (P := fun x => x ≤ 1000) (fun i hi => (g2 i hi).2.2.2) hd.2 k hk
    · rw [if_neg c2] at h1 h2
      obtain ⟨rfl, rfl, rfl, rfl, rfl, rfl⟩ := h1
      obtain ⟨rfl, rfl, rfl, rfl, rfl, rfl⟩ := h2
      exact ⟨rfl, g⟩
  · rw [if_neg c] at h1 h2
    obtain ⟨rfl, rfl, rfl, rfl, rfl, rfl⟩ := h1
    obtain ⟨rfl, rfl, rfl, rfl, rfl, rfl⟩ := h2
    exact ⟨rfl, g⟩
theorem jNN_0 {cu se fi pr : Nat → Nat} : jNN cu se fi pr 0 cu se fi pr 0 := ⟨⟨rfl, rfl, rfl, rfl, rfl⟩, by decide, fun k hk => absurd hk (Nat.not_lt_zero _)⟩
theorem lj_best {cu se fi pr on be on2 be2 : Nat → Nat} {zd oc bc zd1 oc1 bc1 : Nat → Int32} {nc lL lE lL1 lE1 lt en bl bn lt2 en2 bl2 bn2 : Nat} {what r1 r2 : Int32} (h1 : if (0 ≤ what ∧ what ≤ 1) then (r1 = nI (if what = 0 then lL1 else lE1) ∧ (oc1, bc1, lL1, lE1) = kShop cu se fi pr nc oc bc) else (r1 = -2 ∧ zd1 = zd ∧ oc1 = oc ∧ bc1 = bc ∧ lL1 = lL ∧ lE1 = lE)) (h2 : if (0 ≤ what ∧ what ≤ 1) then (r2 = nI (if what = 0 then (mBestC cu se fi pr nc).1.1 else (mBestC cu se fi pr nc).1.2)) else r2 = -2 ∧ on2 = on ∧ be2 = be ∧ lt2 = lt ∧ en2 = en ∧ bl2 = bl ∧ bn2 = bn) : r1 = r2 := by
  by_cases c : 0 ≤ what ∧ what ≤ 1
  · rw [if_pos c] at h1 h2
    have hj := jShop cu se fi pr nc oc bc
    rw [← h1.2] at hj
    obtain ⟨⟨j1, j2⟩, _⟩ := hj
    have j1 : lL1 = (mBestC cu se fi pr nc).1.1 := j1
    have j2 : lE1 = (mBestC cu se fi pr nc).1.2 := j2
    rw [h1.1, h2, j1, j2]
  · rw [if_neg c] at h1 h2
    rw [h1.1, h2.1]
theorem lj_coatAt {cu se fi pr on be on2 be2 : Nat → Nat} {zd oc bc zd1 oc1 bc1 : Nat → Int32} {nc lL lE lL1 lE1 lt en bl bn lt2 en2 bl2 bn2 : Nat} {i r1 r2 : Int32} (g : jNN cu se fi pr nc cu se fi pr nc) (h1 : if (0 ≤ i ∧ i ≤ nI nc - 1) then (r1 = bc1 i.toNatClampNeg ∧ (oc1, bc1, lL1, lE1) = kShop cu se fi pr nc oc bc) else (r1 = -1 ∧ zd1 = zd ∧ oc1 = oc ∧ bc1 = bc ∧ lL1 = lL ∧ lE1 = lE)) (h2 : if (0 ≤ i ∧ i ≤ nI nc - 1) then (r2 = nI ((mBestC cu se fi pr nc).2 i.toNatClampNeg)) else r2 = -1 ∧ on2 = on ∧ be2 = be ∧ lt2 = lt ∧ en2 = en ∧ bl2 = bl ∧ bn2 = bn) : r1 = r2 := by
  by_cases c : 0 ≤ i ∧ i ≤ nI nc - 1
  · rw [if_pos c] at h1 h2
    have hj := jShop cu se fi pr nc oc bc
    rw [← h1.2] at hj
    obtain ⟨_, j3⟩ := hj
    have hb := mBestC_b g.2.1 g.2.2
    rw [h1.1, h2]
    exact j3 (by omega) _ (kx_hasin2 c (by have := g.2.1; omega))
  · rw [if_neg c] at h1 h2
    rw [h1.1, h2.1]
theorem lj_digest {hd bd ms dy vl hbt : Nat → Int32} {told : Nat} {kd ba ot aa bb bm xx yy xm ym bm1 xx1 yy1 xx2 yy2 cor : Nat → Int32} {pts pcs sms nc : Nat} {sn jn cu se fi pr : Nat → Nat} {r1 r2 : Int64} (gT : jTT hd bd ms dy vl hbt told hd bd ms dy vl hbt told) (gP : jPP kd ba ot aa bb pts kd (jK1 kd ba aa) (jK2 kd ot aa bb) (jK3 kd aa bb) (jK4 kd bb) pts) (h1 : r1 = kXC cu se fi pr nc (kXS jn (sms * 4) (kXP cor sn pcs (kMP xx1 yy1 pts (kMB hd bd ms dy vl hbt told 6 (kDC told pts pcs sms nc 5))))) ∧ kBMu hd bd ms dy vl hbt told 0 bm 6 = bm1 ∧ kXs kd ba ot aa bb (kBMu hd bd ms dy vl hbt told 0 bm 6) xx pts = xx1 ∧ kYs kd ba ot aa bb (kBMu hd bd ms dy vl hbt told 0 bm 6) yy pts = yy1) (h2 : r2 = mXC cu se fi pr (4 * nc) (kXS jn (4 * sms) (mXP cor sn pcs (kMP xx2 yy2 pts (mDM hd bd ms dy vl hbt told 36 (kDC told pts pcs sms nc 5))))) ∧ mXs kd (jK1 kd ba aa) (jK2 kd ot aa bb) (jK3 kd aa bb) (jK4 kd bb) (kLat20 hd bd ms dy vl hbt told 0) xm pts = xx2 ∧ mYs kd (jK1 kd ba aa) (jK2 kd ot aa bb) (jK3 kd aa bb) (jK4 kd bb) (kLat20 hd bd ms dy vl hbt told 0) ym pts = yy2) : r1 = r2 := by
  obtain ⟨a1, _, a3, a4⟩ := h1
  obtain ⟨b1, b2, b3⟩ := h2
  have e : mDM hd bd ms dy vl hbt told 36 (kDC told pts pcs sms nc 5) = kMB hd bd ms dy vl hbt told 6 (kDC told pts pcs sms nc 5) := jMB (fun i hi => (gT.2.2.2.1 i hi).2) 6 _
  rw [a1, b1, jXC, jXP, Nat.mul_comm 4 sms, e, jMP (x1 := xx1) (y1 := yy1) (x2 := xx2) (y2 := yy2) (n := pts) (by rw [← a3, ← b2]; exact jXX gT gP 0 bm xx xm) (by rw [← a4, ← b3]; exact jYY gT gP 0 bm yy ym) pts _ (Nat.le_refl _)]
