/-! what the contracts ask, out of what holds -/
theorem jT_f {hd bd ms dy vl hbt : Nat → Int32} {told : Nat} (g : jTT hd bd ms dy vl hbt told hd bd ms dy vl hbt told) : told ≤ 40 ∧ (∀ i, i < told → vp_in (hd i) 4) := ⟨g.2.1, g.2.2.1⟩
theorem jP_f {kd ba ot aa bb : Nat → Int32} {pts : Nat} (g : jPP kd ba ot aa bb pts kd (jK1 kd ba aa) (jK2 kd ot aa bb) (jK3 kd aa bb) (jK4 kd bb) pts) : pts ≤ 20 ∧ (∀ p, p < pts → ¬ kd p = 0 → vp_in (ba p) 20) ∧ (∀ p, p < pts → (kd p = 2 ∨ kd p = 3) → vp_in (ot p) 6) ∧ (∀ p, p < pts → ¬ kd p = 0 → ¬ kd p = 1 → ¬ kd p = 2 → ¬ kd p = 3 → vp_in (ot p) 20) ∧ (∀ p, p < pts → ¬ kd p = 0 → vp_in (jK1 kd ba aa p) 20) ∧ (∀ p, p < pts → kd p = 4 → vp_in (jK2 kd ot aa bb p) 20) ∧ (∀ p, p < pts → ¬ kd p = 0 → ¬ kd p = 1 → ¬ kd p = 4 → vp_in (jK2 kd ot aa bb p) 6 ∧ ¬ jK4 kd bb p = 0) := by
  obtain ⟨-, h20, h⟩ := g
  have hba : ∀ p, p < pts → ¬ kd p = 0 → vp_in (ba p) 20 := by
    intro p hp n0
    rcases h p hp with ⟨h0, _⟩ | ⟨_, ⟨j, hj, e⟩, _⟩ | ⟨_, ⟨j, hj, e⟩, _⟩ | ⟨_, ⟨j, hj, e⟩, _⟩
    · exact absurd h0 n0
    · rw [e]; exact vp_in_nI (by omega) (by decide)
    · rw [e]; exact vp_in_nI (by omega) (by decide)
    · rw [e]; exact vp_in_nI (by omega) (by decide)
  have h23 : ∀ p, p < pts → (kd p = 2 ∨ kd p = 3) → vp_in (ot p) 6 ∧ ¬ bb p = 0 := by
    intro p hp n
    rcases h p hp with ⟨h0, _⟩ | ⟨h1, _⟩ | ⟨_, _, ⟨j, hj, e⟩, _, hb⟩ | ⟨h4, _⟩
    · rcases n with n | n <;> exact absurd (h0.symm.trans n) (by decide)
    · rcases n with n | n <;> exact absurd (h1.symm.trans n) (by decide)
    · exact ⟨by rw [e]; exact vp_in_nI hj (by decide), jx_ne0 hb⟩
    · rcases n with n | n <;> exact absurd (h4.symm.trans n) (by decide)
  have h4 : ∀ p, p < pts → kd p = 4 → vp_in (ot p) 20 := by
    intro p hp n
    rcases h p hp with ⟨h0, _⟩ | ⟨h1, _⟩ | ⟨h2, _⟩ | ⟨_, _, ⟨j, hj, e⟩⟩
    · exact absurd (h0.symm.trans n) (by decide)
    · exact absurd (h1.symm.trans n) (by decide)
    · rcases h2 with h2 | h2 <;> exact absurd (h2.symm.trans n) (by decide)
    · rw [e]; exact vp_in_nI (by omega) (by decide)
  have hk : ∀ p, p < pts → ¬ kd p = 0 → ¬ kd p = 1 → ((kd p = 2 ∨ kd p = 3) ∨ kd p = 4) := by
    intro p hp n0 n1
    rcases h p hp with ⟨h0, _⟩ | ⟨h1, _⟩ | ⟨h2, _⟩ | ⟨h4, _⟩
    · exact absurd h0 n0
    · exact absurd h1 n1
    · exact Or.inl h2
    · exact Or.inr h4
  refine ⟨h20, hba, fun p hp n => (h23 p hp n).1, ?_, ?_, ?_, ?_⟩
  · intro p hp n0 n1 n2 n3
    rcases hk p hp n0 n1 with (q | q) | q
    · exact absurd q n2
    · exact absurd q n3
    · exact h4 p hp q
  · intro p hp n0
    rw [jK1, if_neg n0]
    exact hba p hp n0
  · intro p hp n
    rw [jK2, if_neg (by rw [n]; decide), if_neg (by rw [n]; decide)]
    exact h4 p hp n
  · intro p hp n0 n1 n4
    rw [jK2, jK4, if_neg n0, if_neg n0, if_neg n1, if_neg n1]
    rcases hk p hp n0 n1 with q | q
    · exact h23 p hp q
    · exact absurd q n4
theorem jC_f {cor : Nat → Int32} {pcs sms : Nat} {sn jn : Nat → Nat} {pts : Nat} (h20 : pts ≤ 20) (g : jCC (fun k => nI (sn k)) (fun k => nI (jn k)) cor pcs sms (fun k => nI (sn k)) (fun k => nI (jn k)) cor pcs sms sn jn pts) : pcs ≤ 7 ∧ sms ≤ 10 ∧ (∀ k, k < pcs → sn k ≤ 8) ∧ (∀ k, k < pcs → 0 < sn k) ∧ (∀ k i, k < pcs → i < sn k → vp_in (cor (k * 8 + i)) 20) ∧ (∀ k i, k < pcs → i < sn k → vp_in (cor (8 * k + i)) 20) ∧ (∀ k, k < sms → (jn (k * 4) < pcs ∧ jn (k * 4 + 1) < sn (jn (k * 4))) ∧ jn (k * 4 + 2) < pcs ∧ jn (k * 4 + 3) < sn (jn (k * 4 + 2))) ∧ (∀ k, k < sms → (jn (4 * k) < pcs ∧ jn (4 * k + 1) < sn (jn (4 * k))) ∧ jn (4 * k + 2) < pcs ∧ jn (4 * k + 3) < sn (jn (4 * k + 2))) := by
  obtain ⟨-, g1, g2, g3, g4⟩ := g
  have hc : ∀ k i, k < pcs → i < sn k → vp_in (cor (k * 8 + i)) 20 := by
    intro k i hk hi
    obtain ⟨c, hc, e⟩ := (g3 k hk).2.2 i hi
    rw [e]
    exact vp_in_nI (by omega) (by decide)
  exact ⟨g1, g2, fun k hk => (g3 k hk).2.1, fun k hk => (g3 k hk).1, hc, fun k i hk hi => by rw [Nat.mul_comm 8 k]; exact hc k i hk hi, g4, fun k hk => by rw [Nat.mul_comm 4 k]; exact g4 k hk⟩
theorem jN_f {cu se fi pr : Nat → Nat} {nc : Nat} (g : jNN cu se fi pr nc cu se fi pr nc) : nc ≤ 6 ∧ (∀ k, k < nc → cu k ≤ 50 ∧ se k ≤ 50 ∧ fi k ≤ 50 ∧ pr k ≤ 1000) := g.2
theorem jW_f {wd ck : Nat} (g : jWW wd ck wd ck) : wd ≤ 5000 ∧ (1 ≤ ck ∧ ck ≤ 500) := g.2
/-! pieces -/
theorem jx_up {f : Nat → Int32} {i j : Nat} {v : Int32} (h : j ≠ i) : upd f i v j = f j := if_neg h
theorem jn_up {f : Nat → Nat} {i j v : Nat} (h : j ≠ i) : updN f i v j = f j := if_neg h
theorem jn_us {f : Nat → Nat} {i v : Nat} : updN f i v i = v := if_pos rfl
theorem lj_piece {cor cor1 cor2 szs1 szs2 : Nat → Int32} {pcs sms pcs1 pcs2 : Nat} {sn jn : Nat → Nat} {pts : Nat} {a b cx d r1 r2 : Int32} (h20 : pts ≤ 20) (g : jCC (fun k => nI (sn k)) (fun k => nI (jn k)) cor pcs sms (fun k => nI (sn k)) (fun k => nI (jn k)) cor pcs sms sn jn pts) (h1 : if (0 ≤ a ∧ a ≤ nI pts - 1) ∧ (0 ≤ b ∧ b ≤ nI pts - 1) ∧ (0 ≤ cx ∧ cx ≤ nI pts - 1) ∧ (d = -1 ∨ (0 ≤ d ∧ d ≤ nI pts - 1)) then (if pcs < 7 then r1 = nI pcs ∧ szs1 = upd (fun k => nI (sn k)) pcs (if d = -1 then 3 else 4) ∧ cor1 = upd (upd (upd (upd cor (pcs * 8) a) (pcs * 8 + 1) b) (pcs * 8 + 2) cx) (pcs * 8 + 3) d ∧ pcs1 = pcs + 1 else r1 = -4 ∧ szs1 = (fun k => nI (sn k)) ∧ cor1 = cor ∧ pcs1 = pcs) else (r1 = -2 ∧ szs1 = (fun k => nI (sn k)) ∧ cor1 = cor ∧ pcs1 = pcs)) (h2 : if (0 ≤ a ∧ a ≤ nI pts - 1) ∧ (0 ≤ b ∧ b ≤ nI pts - 1) ∧ (0 ≤ cx ∧ cx ≤ nI pts - 1) ∧ (d = -1 ∨ (0 ≤ d ∧ d ≤ nI pts - 1)) then (if pcs < 7 then r2 = nI pcs ∧ szs2 = upd (fun k => nI (sn k)) pcs (if d = -1 then 3 else 4) ∧ cor2 = upd (upd (upd (upd cor (pcs * 8) a) (pcs * 8 + 1) b) (pcs * 8 + 2) cx) (pcs * 8 + 3) d ∧ pcs2 = pcs + 1 else r2 = -4 ∧ szs2 = (fun k => nI (sn k)) ∧ cor2 = cor ∧ pcs2 = pcs) else (r2 = -2 ∧ szs2 = (fun k => nI (sn k)) ∧ cor2 = cor ∧ pcs2 = pcs)) : r1 = r2 ∧ ∃ sn', jCC szs1 (fun k => nI (jn k)) cor1 pcs1 sms szs2 (fun k => nI (jn k)) cor2 pcs2 sms sn' jn pts := by
  by_cases c : (0 ≤ a ∧ a ≤ nI pts - 1) ∧ (0 ≤ b ∧ b ≤ nI pts - 1) ∧ (0 ≤ cx ∧ cx ≤ nI pts - 1) ∧ (d = -1 ∨ (0 ≤ d ∧ d ≤ nI pts - 1))
  · rw [if_pos c] at h1 h2
    by_cases c2 : pcs < 7
    · rw [if_pos c2] at h1 h2
      obtain ⟨rfl, rfl, rfl, rfl⟩ := h1
      obtain ⟨rfl, rfl, rfl, rfl⟩ := h2
      refine ⟨rfl, updN sn pcs (if d = -1 then 3 else 4), ?_⟩
      obtain ⟨-, g1, g2, g3, g4⟩ := g
      have es : upd (fun k => nI (sn k)) pcs (if d = -1 then 3 else 4) = fun k => nI (updN sn pcs (if d = -1 then 3 else 4) k) := by
        rw [← kx_updN]
        congr 1
        split <;> rfl
      refine ⟨⟨es, rfl, es, rfl, rfl, rfl, rfl⟩, by omega, g2, fun k hk => ?_, fun k hk => ?_⟩
      · by_cases e : k = pcs
        · subst e
          rw [jn_us]
          refine ⟨by split <;> decide, by split <;> decide, fun i hi => ?_⟩
          rw [jn_us] at hi
          have hi4 : i < 4 := Nat.lt_of_lt_of_le hi (by split <;> decide)
          rcases (show i = 0 ∨ i = 1 ∨ i = 2 ∨ i = 3 by omega) with e | e | e | e <;> subst e
          · rw [jx_up (by omega), jx_up (by omega), jx_up (by omega), show k * 8 + 0 = k * 8 from rfl, pk_us]
            exact kx_has c.1 (by omega)
          · rw [jx_up (by omega), jx_up (by omega), pk_us]
            exact kx_has c.2.1 (by omega)
          · rw [jx_up (by omega), pk_us]
            exact kx_has c.2.2.1 (by omega)
          · rw [pk_us]
            rcases c.2.2.2 with q | q
            · rw [if_pos q] at hi
              omega
            · exact kx_has q (by omega)
        · obtain ⟨q1, q2, q3⟩ := g3 k (by omega)
          rw [jn_up e]
          refine ⟨q1, q2, fun i hi => ?_⟩
          rw [jn_up e] at hi
          rw [jx_up (by omega), jx_up (by omega), jx_up (by omega), jx_up (by omega)]
          exact q3 i hi
      · obtain ⟨⟨j1, j2⟩, j3, j4⟩ := g4 k hk
        rw [jn_up (show jn (k * 4) ≠ pcs by omega), jn_up (show jn (k * 4 + 2) ≠ pcs by omega)]
        exact ⟨⟨by omega, j2⟩, by omega, j4⟩
    · rw [if_neg c2] at h1 h2
      obtain ⟨rfl, rfl, rfl, rfl⟩ := h1
      obtain ⟨rfl, rfl, rfl, rfl⟩ := h2
      exact ⟨rfl, sn, g⟩
  · rw [if_neg c] at h1 h2
    obtain ⟨rfl, rfl, rfl, rfl⟩ := h1
    obtain ⟨rfl, rfl, rfl, rfl⟩ := h2
    exact ⟨rfl, sn, g⟩
theorem lj_more {cor cor1 cor2 szs1 szs2 : Nat → Int32} {pcs sms : Nat} {sn jn : Nat → Nat} {pts : Nat} {pq v r1 r2 : Int32} (h20 : pts ≤ 20) (g : jCC (fun k => nI (sn k)) (fun k => nI (jn k)) cor pcs sms (fun k => nI (sn k)) (fun k => nI (jn k)) cor pcs sms sn jn pts) (h1 : if (0 ≤ pq ∧ pq ≤ nI pcs - 1) ∧ (0 ≤ v ∧ v ≤ nI pts - 1) then (if sn pq.toNatClampNeg < 8 then r1 = nI (sn pq.toNatClampNeg + 1) ∧ szs1 = upd (fun k => nI (sn k)) pq.toNatClampNeg (nI (sn pq.toNatClampNeg + 1)) ∧ cor1 = upd cor (pq.toNatClampNeg * 8 + sn pq.toNatClampNeg) v else r1 = -4 ∧ szs1 = (fun k => nI (sn k)) ∧ cor1 = cor) else (r1 = -2 ∧ szs1 = (fun k => nI (sn k)) ∧ cor1 = cor)) (h2 : if (0 ≤ pq ∧ pq ≤ nI pcs - 1) ∧ (0 ≤ v ∧ v ≤ nI pts - 1) then (if sn pq.toNatClampNeg < 8 then r2 = nI (sn pq.toNatClampNeg + 1) ∧ szs2 = upd (fun k => nI (sn k)) pq.toNatClampNeg (nI (sn pq.toNatClampNeg + 1)) ∧ cor2 = upd cor (pq.toNatClampNeg * 8 + sn pq.toNatClampNeg) v else r2 = -4 ∧ szs2 = (fun k => nI (sn k)) ∧ cor2 = cor) else (r2 = -2 ∧ szs2 = (fun k => nI (sn k)) ∧ cor2 = cor)) : r1 = r2 ∧ ∃ sn', jCC szs1 (fun k => nI (jn k)) cor1 pcs sms szs2 (fun k => nI (jn k)) cor2 pcs sms sn' jn pts := by
  by_cases c : (0 ≤ pq ∧ pq ≤ nI pcs - 1) ∧ (0 ≤ v ∧ v ≤ nI pts - 1)
  · rw [if_pos c] at h1 h2
    obtain ⟨kq, hkq, rfl⟩ := kx_has c.1 (by have := g.2.1; omega)
    rw [nI_clamp (by have := g.2.1; omega)] at h1 h2
    by_cases c2 : sn kq < 8
    · rw [if_pos c2] at h1 h2
      obtain ⟨rfl, rfl, rfl⟩ := h1
      obtain ⟨rfl, rfl, rfl⟩ := h2
      refine ⟨rfl, updN sn kq (sn kq + 1), ?_⟩
      obtain ⟨-, g1, g2, g3, g4⟩ := g
      refine ⟨⟨kx_updN, rfl, kx_updN, rfl, rfl, rfl, rfl⟩, g1, g2, fun k hk => ?_, fun k hk => ?_⟩
      · obtain ⟨q1, q2, q3⟩ := g3 k hk
        by_cases e : k = kq
        · subst e
          rw [jn_us]
          refine ⟨by omega, by omega, fun i hi => ?_⟩
          rw [jn_us] at hi
          by_cases e2 : i = sn k
          · rw [e2, pk_us]
            exact kx_has c.2 (by omega)
          · rw [jx_up (by omega)]
            exact q3 i (by omega)
        · rw [jn_up e]
          refine ⟨q1, q2, fun i hi => ?_⟩
          rw [jn_up e] at hi
          rw [jx_up (by omega)]
          exact q3 i hi
      · have mono : ∀ x, sn x ≤ updN sn kq (sn kq + 1) x := by
          intro x
          unfold updN
          by_cases e : x = kq
          · rw [if_pos e, e]; omega
          · rw [if_neg e]; exact Nat.le_refl _
        obtain ⟨⟨j1, j2⟩, j3, j4⟩ := g4 k hk
        exact ⟨⟨j1, Nat.lt_of_lt_of_le j2 (mono _)⟩, j3, Nat.lt_of_lt_of_le j4 (mono _)⟩
    · rw [if_neg c2] at h1 h2
      obtain ⟨rfl, rfl, rfl⟩ := h1
      obtain ⟨rfl, rfl, rfl⟩ := h2
      exact ⟨rfl, sn, g⟩
  · rw [if_neg c] at h1 h2
    obtain ⟨rfl, rfl, rfl⟩ := h1
    obtain ⟨rfl, rfl, rfl⟩ := h2
    exact ⟨rfl, sn, g⟩
theorem lj_seam {cor joi1 joi2 : Nat → Int32} {pcs sms sms1 sms2 : Nat} {sn jn : Nat → Nat} {pts : Nat} {a b cx d r1 r2 : Int32} (g : jCC (fun k => nI (sn k)) (fun k => nI (jn k)) cor pcs sms (fun k => nI (sn k)) (fun k => nI (jn k)) cor pcs sms sn jn pts) (h1 : if ((0 ≤ a ∧ a ≤ nI pcs - 1) ∧ 0 ≤ b ∧ b ≤ nI (sn a.toNatClampNeg) - 1) ∧ ((0 ≤ cx ∧ cx ≤ nI pcs - 1) ∧ 0 ≤ d ∧ d ≤ nI (sn cx.toNatClampNeg) - 1) then (if sms < 10 then r1 = nI sms ∧ joi1 = upd (upd (upd (upd (fun k => nI (jn k)) (sms * 4) a) (sms * 4 + 1) b) (sms * 4 + 2) cx) (sms * 4 + 3) d ∧ sms1 = sms + 1 else r1 = -4 ∧ joi1 = (fun k => nI (jn k)) ∧ sms1 = sms) else (r1 = -2 ∧ joi1 = (fun k => nI (jn k)) ∧ sms1 = sms)) (h2 : if ((0 ≤ a ∧ a ≤ nI pcs - 1) ∧ 0 ≤ b ∧ b ≤ nI (sn a.toNatClampNeg) - 1) ∧ ((0 ≤ cx ∧ cx ≤ nI pcs - 1) ∧ 0 ≤ d ∧ d ≤ nI (sn cx.toNatClampNeg) - 1) then (if sms < 10 then r2 = nI sms ∧ joi2 = upd (upd (upd (upd (fun k => nI (jn k)) (sms * 4) a) (sms * 4 + 1) b) (sms * 4 + 2) cx) (sms * 4 + 3) d ∧ sms2 = sms + 1 else r2 = -4 ∧ joi2 = (fun k => nI (jn k)) ∧ sms2 = sms) else (r2 = -2 ∧ joi2 = (fun k => nI (jn k)) ∧ sms2 = sms)) : r1 = r2 ∧ ∃ jn', jCC (fun k => nI (sn k)) joi1 cor pcs sms1 (fun k => nI (sn k)) joi2 cor pcs sms2 sn jn' pts := by
  by_cases c : ((0 ≤ a ∧ a ≤ nI pcs - 1) ∧ 0 ≤ b ∧ b ≤ nI (sn a.toNatClampNeg) - 1) ∧ ((0 ≤ cx ∧ cx ≤ nI pcs - 1) ∧ 0 ≤ d ∧ d ≤ nI (sn cx.toNatClampNeg) - 1)
  · rw [if_pos c] at h1 h2
    by_cases c2 : sms < 10
    · rw [if_pos c2] at h1 h2
      obtain ⟨rfl, rfl, rfl⟩ := h1
      obtain ⟨rfl, rfl, rfl⟩ := h2
      obtain ⟨-, g1, g2, g3, g4⟩ := g
      obtain ⟨ka, hka, rfl⟩ := kx_has c.1.1 (by omega)
      obtain ⟨kc, hkc, rfl⟩ := kx_has c.2.1 (by omega)
      rw [nI_clamp (by omega), nI_clamp (by omega)] at c
      obtain ⟨kb', hkb, rfl⟩ := kx_has c.1.2 (by have := (g3 ka hka).2.1; omega)
      obtain ⟨kd', hkd, rfl⟩ := kx_has c.2.2 (by have := (g3 kc hkc).2.1; omega)
      refine ⟨rfl, updN (updN (updN (updN jn (sms * 4) ka) (sms * 4 + 1) kb') (sms * 4 + 2) kc) (sms * 4 + 3) kd', ?_⟩
      refine ⟨⟨rfl, by rw [kx_updN, kx_updN, kx_updN, kx_updN], rfl, by rw [kx_updN, kx_updN, kx_updN, kx_updN], rfl, rfl, rfl⟩, g1, by omega, g3, fun k hk => ?_⟩
      by_cases e : k = sms
      · subst e
        have e0 : updN (updN (updN (updN jn (k * 4) ka) (k * 4 + 1) kb') (k * 4 + 2) kc) (k * 4 + 3) kd' (k * 4) = ka := by rw [jn_up (by omega), jn_up (by omega), jn_up (by omega), jn_us]
        have e1 : updN (updN (updN (updN jn (k * 4) ka) (k * 4 + 1) kb') (k * 4 + 2) kc) (k * 4 + 3) kd' (k * 4 + 1) = kb' := by rw [jn_up (by omega), jn_up (by omega), jn_us]
        have e2 : updN (updN (updN (updN jn (k * 4) ka) (k * 4 + 1) kb') (k * 4 + 2) kc) (k * 4 + 3) kd' (k * 4 + 2) = kc := by rw [jn_up (by omega), jn_us]
        have e3 : updN (updN (updN (updN jn (k * 4) ka) (k * 4 + 1) kb') (k * 4 + 2) kc) (k * 4 + 3) kd' (k * 4 + 3) = kd' := jn_us
        rw [e0, e1, e2, e3]
        exact ⟨⟨hka, hkb⟩, hkc, hkd⟩
      · have un : ∀ i, i < 4 → updN (updN (updN (updN jn (sms * 4) ka) (sms * 4 + 1) kb') (sms * 4 + 2) kc) (sms * 4 + 3) kd' (k * 4 + i) = jn (k * 4 + i) := fun i hi => by rw [jn_up (by omega), jn_up (by omega), jn_up (by omega), jn_up (by omega)]
        have u0 : updN (updN (updN (updN jn (sms * 4) ka) (sms * 4 + 1) kb') (sms * 4 + 2) kc) (sms * 4 + 3) kd' (k * 4) = jn (k * 4) := un 0 (by omega)
        rw [u0, un 1 (by omega), un 2 (by omega), un 3 (by omega)]
        exact g4 k (by omega)
    · rw [if_neg c2] at h1 h2
      obtain ⟨rfl, rfl, rfl⟩ := h1
      obtain ⟨rfl, rfl, rfl⟩ := h2
      exact ⟨rfl, jn, g⟩
  · rw [if_neg c] at h1 h2
    obtain ⟨rfl, rfl, rfl⟩ := h1
    obtain ⟨rfl, rfl, rfl⟩ := h2
    exact ⟨rfl, jn, g⟩
