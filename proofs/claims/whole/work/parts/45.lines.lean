/-! reading: lines -/
theorem tls1 : fLi_takeLineStart (-1) 0 = (0, 0) := by
  unfold fLi_takeLineStart
  rw [if_pos rfl]
theorem tls2 : fLi_takeLineStart (-2) 0 = (0, 1) := by
  unfold fLi_takeLineStart
  rw [if_neg (by decide), if_pos rfl]
theorem tls3 {k : Int32} (h1 : ¬ k = -1) (h2 : ¬ k = -2) : fLi_takeLineStart k 0 = (1, 1) := by
  unfold fLi_takeLineStart
  rw [if_neg h1, if_neg h2]
theorem lines_pair {b t : Nat → Int32} {n : Nat} {ch : Nat → Nat} (h : TB b t n ch) :
    ∀ (q i a f L m : Nat) (row told seen : Nat → Int32) (ts tk nu to go fk : Int32) (p p' : Nat) (kx km vx vm goods : Int32), n - i ≤ q → i ≤ n → a ≤ i → q + 1 < f → i ≤ p → p ≤ p' → p' ≤ n → fLi_nextToken b (nI n) (nI i) ts tk nu = some (nI p', nI p, kx, vx) → Tk p p' kx km vx vm → m < 65536 → RW told row → (∀ w, 1 ≤ w → w < 16 → seen w = if m.testBit w = true then 1 else 0) → (∀ w g, 1 ≤ w → w < 16 → g < 6 → seen w = 0 → row (w * 6 + g) = -1) →
      (∃ k pp, ¬ k = 0 ∧ XF (XS b n a row seen (nI i) ts tk nu 0 (nI L) to go fk) k pp ∧ ∃ told' at' tok' num' li' tw' goods', fMM_read_l44 t (nI n) f told (nI p') (nI p) km vm (nI L) (nI m) goods = some (Sum.inl (k, told', at', nI pp, tok', num', li', tw', goods')) ∧ ∀ s, s < 480 → told' s = told s) ∨
      (∃ row' seen' cu' ts' tk' nu' ex' L' to' go' told' at' pl' tok' num' tw' goods', XS b n a row seen (nI i) ts tk nu 0 (nI L) to go fk = some (Sum.inr (Sum.inl (row', seen', cu', ts', tk', nu', ex', nI L', to', go', 0))) ∧ L' + i ≤ L + n ∧ fMM_read_l44 t (nI n) f told (nI p') (nI p) km vm (nI L) (nI m) goods = some (Sum.inr (told', at', pl', tok', num', nI L', tw', goods')) ∧ RW told' row' ∧ ∀ s, s < 480 → told' s = told s) := by
  have hn := h.1
  have stop : ∀ (i a f L m : Nat) (row told seen : Nat → Int32) (ts tk nu to go fk : Int32) (p p' : Nat) (vx vm goods : Int32), i ≤ n → a ≤ i → fLi_nextToken b (nI n) (nI i) ts tk nu = some (nI p', nI p, -1, vx) → RW told row → (∃ row' seen' cu' ts' tk' nu' ex' L' to' go' told' at' pl' tok' num' tw' goods', XS b n a row seen (nI i) ts tk nu 0 (nI L) to go fk = some (Sum.inr (Sum.inl (row', seen', cu', ts', tk', nu', ex', nI L', to', go', 0))) ∧ L' + i ≤ L + n ∧ fMM_read_l44 t (nI n) (f + 1) told (nI p') (nI p) 0 vm (nI L) (nI m) goods = some (Sum.inr (told', at', pl', tok', num', nI L', tw', goods')) ∧ RW told' row' ∧ ∀ s, s < 480 → told' s = told s) := by
    intro i a f L m row told seen ts tk nu to go fk p p' vx vm goods hi ha hnt hR
    refine ⟨row, seen, nI p', nI p, -1, vx, 0, L, to, go, told, nI p', nI p, 0, vm, nI m, goods, ?_, by omega, ?_, hR, fun _ _ => rfl⟩
    · rw [XS_step (by omega) hnt tt0, tls1, if_pos rfl, if_pos rfl]
    · rw [fMM_read_l44.eq_2, if_pos rfl]
  intro q
  induction q with
  | zero =>
    intro i a f L m row told seen ts tk nu to go fk p p' kx km vx vm goods hq hi ha hf hip hpp hpn hnt hTk hm hR hS hN
    obtain ⟨f, rfl⟩ : ∃ k, f = k + 1 := ⟨f - 1, by omega⟩
    rcases hTk with ⟨rfl, rfl⟩ | ⟨z, -⟩
    · exact Or.inr (stop i a f L m row told seen ts tk nu to go fk p p' vx vm goods hi ha hnt hR)
    · omega
  | succ q ih =>
    intro i a f L m row told seen ts tk nu to go fk p p' kx km vx vm goods hq hi ha hf hip hpp hpn hnt hTk hm hR hS hN
    obtain ⟨f, rfl⟩ : ∃ k, f = k + 1 := ⟨f - 1, by omega⟩
    have bad0 : ¬ kx = -1 → ¬ kx = -2 → ¬ km = 0 → ¬ km = 6 → (∃ k pp, ¬ k = 0 ∧ XF (XS b n a row seen (nI i) ts tk nu 0 (nI L) to go fk) k pp ∧ ∃ told' at' tok' num' li' tw' goods', fMM_read_l44 t (nI n) (f + 1) told (nI p') (nI p) km vm (nI L) (nI m) goods = some (Sum.inl (k, told', at', nI pp, tok', num', li', tw', goods')) ∧ ∀ s, s < 480 → told' s = told s) := by
      intro z1 z2 z3 z4
      refine ⟨1, p, n10, ?_, ?_⟩
      · rw [XS_step (by omega) hnt tt0, tls3 z1 z2, if_neg n10]
        exact ⟨_, _, _, _, _, _, _, _, _, rfl⟩
      · rw [fMM_read_l44.eq_2, if_neg z3]
        unfold fMM_line
        rw [if_neg z4, obs, if_neg n10]
        exact ⟨_, _, _, _, _, _, _, rfl, fun _ _ => rfl⟩
    rcases hTk with ⟨rfl, rfl⟩ | ⟨hlt, ⟨rfl, rfl, v, hv, rfl, rfl⟩ | ⟨rfl, rfl⟩ | ⟨rfl, rfl⟩ | ⟨rfl, rfl⟩ | ⟨rfl, rfl⟩ | ⟨rfl, rfl⟩⟩
    · exact Or.inr (stop i a f L m row told seen ts tk nu to go fk p p' vx vm goods hi ha hnt hR)
    · exact Or.inl (bad0 (by decide) (by decide) (by decide) (by decide))
    · exact Or.inl (bad0 (by decide) (by decide) (by decide) (by decide))
    · exact Or.inl (bad0 (by decide) (by decide) (by decide) (by decide))
    · exact Or.inl (bad0 (by decide) (by decide) (by decide) (by decide))
    · exact Or.inl (bad0 (by decide) (by decide) (by decide) (by decide))
    · clear bad0
      -- the word town
      have hX1 : XS b n a row seen (nI i) ts tk nu 0 (nI L) to go fk = XS b n (a + 1) row seen (nI p') (nI p) (-2) vx 1 (nI L) to go 0 := by
        rw [XS_step (by omega) hnt tt0, tls2, if_pos rfl, if_neg (by decide)]
      obtain ⟨p2, p2', kx2, km2, vx2, vm2, s1, s2, s3, s4, s5, s6⟩ := tok_pair h hpn (nI p) (-2) vx (nI p) 6 vm
      have hML : ∀ X, fMM_line told t (nI n) (nI p') (nI p) 6 vm (nI L) (nI m) goods = X → fMM_read_l44 t (nI n) (f + 1) told (nI p') (nI p) 6 vm (nI L) (nI m) goods = ob X (fun e4 => (if e4.1 = (0) then fMM_read_l44 t (nI n) f e4.2.1 e4.2.2.1 e4.2.2.2.1 e4.2.2.2.2.1 e4.2.2.2.2.2.1 e4.2.2.2.2.2.2.1 e4.2.2.2.2.2.2.2.1 e4.2.2.2.2.2.2.2.2 else some (Sum.inl (e4.1, e4.2.1, e4.2.2.1, e4.2.2.2.1, e4.2.2.2.2.1, e4.2.2.2.2.2.1, e4.2.2.2.2.2.2.1, e4.2.2.2.2.2.2.2.1, e4.2.2.2.2.2.2.2.2)))) := by
        intro X hX
        rw [fMM_read_l44.eq_2, if_neg (show ¬ (6 : Int32) = 0 by decide), hX]
      have bad1 : ¬ kx2 = -3 → ¬ km2 = 1 → (∃ k pp, ¬ k = 0 ∧ XF (XS b n a row seen (nI i) ts tk nu 0 (nI L) to go fk) k pp ∧ ∃ told' at' tok' num' li' tw' goods', fMM_read_l44 t (nI n) (f + 1) told (nI p') (nI p) 6 vm (nI L) (nI m) goods = some (Sum.inl (k, told', at', nI pp, tok', num', li', tw', goods')) ∧ ∀ s, s < 480 → told' s = told s) := by
        intro z1 z2
        refine ⟨1, p2, n10, ?_, ?_⟩
        · rw [hX1, XS_step (by omega) s4 (tt1.trans (by unfold fLi_takeTown; rw [if_neg z1, obs])), if_neg n10]
          exact ⟨_, _, _, _, _, _, _, _, _, rfl⟩
        · rw [hML _ (by unfold fMM_line; rw [if_pos rfl, s5, obs, if_neg z2]), obs, if_neg n10]
          exact ⟨_, _, _, _, _, _, _, rfl, fun _ _ => rfl⟩
      rcases s6 with ⟨rfl, rfl⟩ | ⟨hlt2, ⟨rfl, rfl, w, hw, rfl, rfl⟩ | ⟨rfl, rfl⟩ | ⟨rfl, rfl⟩ | ⟨rfl, rfl⟩ | ⟨rfl, rfl⟩ | ⟨rfl, rfl⟩⟩
      · exact Or.inl (bad1 (by decide) (by decide))
      · clear bad1
        rcases tmin hw with ⟨g1, g2⟩ | ⟨hw1, hw16, g1, g2, hmin⟩
        · left
          refine ⟨3, p2, n30, ?_, ?_⟩
          · rw [hX1, XS_step (by omega) s4 (tt1.trans (by unfold fLi_takeTown; rw [if_pos rfl, if_pos g2, obs])), if_neg n30]
            exact ⟨_, _, _, _, _, _, _, _, _, rfl⟩
          · rw [hML _ (by unfold fMM_line; rw [if_pos rfl, s5, obs, if_pos rfl, if_pos g1, if_pos g1]), obs, if_neg n30]
            exact ⟨_, _, _, _, _, _, _, rfl, fun _ _ => rfl⟩
        · rw [hmin] at s4
          have hbit := bit_get (m := m) (w := w) hm hw16
          have hseen := hS w hw1 hw16
          by_cases hb : m.testBit w = true
          · left
            rw [if_pos hb] at hseen
            refine ⟨2, p2, n20, ?_, ?_⟩
            · rw [hX1, XS_step (by omega) s4 (tt1.trans (by unfold fLi_takeTown; rw [if_pos rfl, if_neg g2, gdn hw16 (by decide), nI_clamp (by omega), if_neg (ne0 hseen), obs])), if_neg n20]
              exact ⟨_, _, _, _, _, _, _, _, _, rfl⟩
            · rw [hML _ (by unfold fMM_line; rw [if_pos rfl, s5, obs, if_pos rfl, if_neg g1, if_pos (hbit.mpr hb)]), obs, if_neg n20]
              exact ⟨_, _, _, _, _, _, _, rfl, fun _ _ => rfl⟩
          · rw [if_neg hb] at hseen
            have hX2 : XS b n a row seen (nI i) ts tk nu 0 (nI L) to go fk = XS b n (a + 2) row (upd seen w 1) (nI p2') (nI p2) (-3) (nI w) 2 (nI L) (nI w) go 0 := by
              rw [hX1, XS_step (by omega) s4 (tt1.trans (by unfold fLi_takeTown; rw [if_pos rfl, if_neg g2, gdn hw16 (by decide), nI_clamp (by omega), if_pos hseen, gdn hw16 (by decide), obs])), if_pos rfl, if_neg (by decide)]
            obtain ⟨p3, p3', kx3, km3, vx3, vm3, u1, u2, u3, u4, u5, u6⟩ := tok_pair h s3 (nI p2) (-3) (nI w) (nI p2) 1 (nI w)
            have hMl : fMM_line told t (nI n) (nI p') (nI p) 6 vm (nI L) (nI m) goods = (if km3 = (4) then ob (fMM_line_l102 (nI w) t (nI n) FU (1) told (nI p3') (nI p3) km3 vm3 (0)) (Sum.elim (fun e11 => some (e11.1, e11.2.1, e11.2.2.1, e11.2.2.2.1, e11.2.2.2.2.1, e11.2.2.2.2.2.1, nI L, nI (m ||| 2 ^ w), e11.2.2.2.2.2.2)) (fun e12 => (if e12.2.2.2.1 = (2) then ob (fMM_nextToken t (nI n) e12.2.1 e12.2.2.1 e12.2.2.2.1 e12.2.2.2.2.1) (fun e13 => some ((0), e12.1, e13.1, e13.2.1, e13.2.2.1, e13.2.2.2, (nI L + (1)), nI (m ||| 2 ^ w), e12.2.2.2.2.2)) else some ((1), e12.1, e12.2.1, e12.2.2.1, e12.2.2.2.1, e12.2.2.2.2.1, nI L, nI (m ||| 2 ^ w), e12.2.2.2.2.2)))) else some ((1), told, nI p3', nI p3, km3, vm3, nI L, nI (m ||| 2 ^ w), (0))) := by
              unfold fMM_line
              rw [if_pos rfl, s5, obs, if_pos rfl, if_neg g1, if_neg (fun z => hb (hbit.mp z)), if_neg g1, u5, obs, bit_set hw16]
            have hR0 := hML _ hMl
            have bad2 : ¬ kx3 = 58 → ¬ km3 = 4 → (∃ k pp, ¬ k = 0 ∧ XF (XS b n a row seen (nI i) ts tk nu 0 (nI L) to go fk) k pp ∧ ∃ told' at' tok' num' li' tw' goods', fMM_read_l44 t (nI n) (f + 1) told (nI p') (nI p) 6 vm (nI L) (nI m) goods = some (Sum.inl (k, told', at', nI pp, tok', num', li', tw', goods')) ∧ ∀ s, s < 480 → told' s = told s) := by
              intro z1 z2
              refine ⟨1, p3, n10, ?_, ?_⟩
              · rw [hX2, XS_step (by omega) u4 (tt2.trans (by unfold fLi_takeColon; rw [if_neg z1])), if_neg n10]
                exact ⟨_, _, _, _, _, _, _, _, _, rfl⟩
              · rw [hR0, if_neg z2, obs, if_neg n10]
                exact ⟨_, _, _, _, _, _, _, rfl, fun _ _ => rfl⟩
            rcases u6 with ⟨rfl, rfl⟩ | ⟨hlt3, ⟨rfl, rfl, v3, hv3, rfl, rfl⟩ | ⟨rfl, rfl⟩ | ⟨rfl, rfl⟩ | ⟨rfl, rfl⟩ | ⟨rfl, rfl⟩ | ⟨rfl, rfl⟩⟩
            · exact Or.inl (bad2 (by decide) (by decide))
            · exact Or.inl (bad2 (by decide) (by decide))
            · exact Or.inl (bad2 (by decide) (by decide))
            · exact Or.inl (bad2 (by decide) (by decide))
            · clear bad2
              rw [if_pos rfl] at hR0
              have hX3 : XS b n a row seen (nI i) ts tk nu 0 (nI L) to go fk = XS b n (a + 3) row (upd seen w 1) (nI p3') (nI p3) 58 vx3 3 (nI L) (nI w) go 0 := by
                rw [hX2, XS_step (by omega) u4 (tt2.trans (by unfold fLi_takeColon; rw [if_pos rfl])), if_pos rfl, if_neg (by decide)]
              have hP := parts_pair h hw1 hw16 (upd seen w 1) (nI L) (n - p3') p3' (a + 3) FU 0 row told (nI p3) 58 vx3 go 0 (nI p3) 4 vm3 (Nat.le_refl _) u3 (by omega) (FU_gt (by omega)) (by omega) hR (fun g hg => by
                rw [Nat.zero_testBit]
                exact ⟨fun _ => rfl, fun _ => hN w g hw1 hw16 hg hseen⟩)
              rw [← hX3] at hP
              have hLO : fMM_line_l102 (nI w) t (nI n) FU (1) told (nI p3') (nI p3) 4 vm3 (0) = LO t n w FU told p3' (nI p3) 4 vm3 0 := rfl
              rw [hLO] at hR0
              rcases hP with ⟨k, pp, y1, y2, td, y3⟩ | ⟨j, pp, a', row', told', ts', tk', nu', go', num', goods', y1, y2, y3, y4, y5, y6, y7, y8⟩ | ⟨pp, kmE, told', at', num', goods', y1, y2, y3, y4⟩
              · left
                obtain ⟨at', tok', num', goods', y3, y4⟩ := y3
                refine ⟨k, pp, y1, y2, ?_⟩
                rw [y3, obs] at hR0
                rw [hR0]
                show ∃ told' at' tok' num' li' tw' goods', ob (some _) _ = _ ∧ _
                rw [obs, if_neg y1]
                exact ⟨_, _, _, _, _, _, _, rfl, y4⟩
              · rw [y4, obs] at hR0
                obtain ⟨pj, pj', kxj, kmj, vxj, vmj, x1, x2, x3, x4, x5, x6⟩ := tok_pair h y2 ts' tk' nu' (nI pp) 2 num'
                have hR1 : fMM_read_l44 t (nI n) (f + 1) told (nI p') (nI p) 6 vm (nI L) (nI m) goods = fMM_read_l44 t (nI n) f told' (nI pj') (nI pj) kmj vmj (nI (L + 1)) (nI (m ||| 2 ^ w)) goods' := by
                  rw [hR0]
                  simp only [Sum.elim_inr, x5, obs, nI_1, if_pos]
                rw [hR1, y5, nI_1 L]
                have hS' : ∀ w', 1 ≤ w' → w' < 16 → upd seen w 1 w' = if (m ||| 2 ^ w).testBit w' = true then 1 else 0 := by
                  intro w' h1 h2
                  rw [tb_or]
                  by_cases e : w = w'
                  · subst e
                    rw [upd_s, decide_eq_true rfl, Bool.or_true, if_pos rfl]
                  · rw [upd_n (fun z => e z.symm), decide_eq_false e, Bool.or_false]
                    exact hS w' h1 h2
                have hN' : ∀ w' g, 1 ≤ w' → w' < 16 → g < 6 → upd seen w 1 w' = 0 → row' (w' * 6 + g) = -1 := by
                  intro w' g h1 h2 h3 h4
                  have hne : w' ≠ w := fun e => by rw [e, upd_s] at h4; exact absurd h4 n10
                  rw [upd_n hne] at h4
                  rw [y8 (w' * 6 + g) (by omega)]
                  exact hN w' g h1 h2 h3 h4
                have := ih j a' f (L + 1) (m ||| 2 ^ w) row' told' (upd seen w 1) ts' tk' nu' (nI w) go' 0 pj pj' kxj kmj vxj vmj goods' (by omega) y2 y3 (by omega) x1 x2 x3 x4 x6 (or_lt hm hw16) y6 hS' hN'
                rcases this with ⟨k, pp, e1, e2, td, at', tok', num', li', tw', gd', e3, e4⟩ | ⟨row2, seen2, cu2, ts2, tk2, nu2, ex2, L2, to2, go2, told2, at2, pl2, tok2, num2, tw2, goods2, e1, e0, e2, e3, e4⟩
                · left
                  exact ⟨k, pp, e1, e2, td, at', tok', num', li', tw', gd', e3, fun s hs => (e4 s hs).trans (y7 s hs)⟩
                · right
                  exact ⟨row2, seen2, cu2, ts2, tk2, nu2, ex2, L2, to2, go2, told2, at2, pl2, tok2, num2, tw2, goods2, e1, by omega, e2, e3, fun s hs => (e4 s hs).trans (y7 s hs)⟩
              · left
                refine ⟨1, pp, n10, y3, ?_⟩
                rw [y2, obs] at hR0
                rw [hR0]
                show ∃ told' at' tok' num' li' tw' goods', ob (if kmE = 2 then _ else _) _ = _ ∧ _
                rw [if_neg y1, obs, if_neg n10]
                exact ⟨_, _, _, _, _, _, _, rfl, y4⟩
            · exact Or.inl (bad2 (by decide) (by decide))
            · exact Or.inl (bad2 (by decide) (by decide))
      · exact Or.inl (bad1 (by decide) (by decide))
      · exact Or.inl (bad1 (by decide) (by decide))
      · exact Or.inl (bad1 (by decide) (by decide))
      · exact Or.inl (bad1 (by decide) (by decide))
      · exact Or.inl (bad1 (by decide) (by decide))
/-- a whole text -/
theorem op_copy {b t : Nat → Int32} {s m : Int32} (hTa : RTa b s t m) {T : Nat → Nat → Int32} {told : Nat → Int32} (hTo : RTo T told) (rd : Nat → Int32) (rds : Int32) {any kind place fault fplace : Int32} (hFa : RFa any kind place fault fplace) (row seen : Nat → Int32) (cu ts tk nu ex li to go at_ pl tm nm lm tw gds : Int32) (a1 : Int32) :
    ∃ (r s' : Int32) (row' seen' : Nat → Int32) (cu' ts' tk' nu' ex' li' to' go' any' kind' place' : Int32) (T' : Nat → Nat → Int32) (rd' : Nat → Int32) (rds' : Int32) (told' : Nat → Int32) (m' fault' fplace' at' pl' tm' nm' lm' tw' gds' : Int32),
      fTL_copy a1 b s row seen cu ts tk nu ex li to go any kind place T rd rds = some (r, s', row', seen', cu', ts', tk', nu', ex', li', to', go', any', kind', place', T', rd', rds') ∧
      fMM_copy a1 told rd rds t m fault fplace at_ pl tm nm lm tw gds = some (r, told', rd', rds', m', fault', fplace', at', pl', tm', nm', lm', tw', gds') ∧ RTa b s' t m' ∧ RTo T' told' ∧ RFa any' kind' place' fault' fplace' := by
  obtain ⟨hBy, n, hn, rfl, rfl⟩ := id hTa
  obtain ⟨ch, hTB⟩ := TB_of hBy hn
  unfold fTL_copy fMM_copy fTL_isCopy
  rcases in_or a1 0 4 0 4 rfl rfl (by decide) (by decide) with ⟨m3, t3⟩ | ⟨c, -, hc, rfl, m3, t3⟩
  · exact ⟨-1, nI n, row, seen, cu, ts, tk, nu, ex, li, to, go, any, kind, place, T, rd, rds, told, nI n, fault, fplace, at_, pl, tm, nm, lm, tw, gds, by rw [if_pos t3], by rw [if_pos m3], hTa, hTo, hFa⟩
  rw [if_neg t3, if_neg m3]
  -- nothing told yet
  have k1 : ∀ (d i f : Nat) (tl : Nat → Int32), i + d = 96 → d < f → (∀ j, j < i → tl (480 + j) = -1) → (∀ j, j < 480 → tl j = told j) → ∃ tl', fMM_read_l2 f (nI i) tl = some tl' ∧ (∀ j, j < 96 → tl' (480 + j) = -1) ∧ ∀ j, j < 480 → tl' j = told j := by
    intro d
    induction d with
    | zero =>
      intro i f tl hi hf h1 h2
      obtain ⟨f, rfl⟩ : ∃ k, f = k + 1 := ⟨f - 1, by omega⟩
      have hi : i = 96 := by omega
      subst hi
      exact ⟨tl, by rw [fMM_read_l2.eq_2, if_pos (show (96 : Int32) ≤ nI (96) from (nI_leI (a := 96) (b := (96)) (by omega) (by omega)).mpr (by omega))], h1, h2⟩
    | succ d ih =>
      intro i f tl hi hf h1 h2
      obtain ⟨f, rfl⟩ : ∃ k, f = k + 1 := ⟨f - 1, by omega⟩
      rw [fMM_read_l2.eq_2, if_neg (fun qq : (96 : Int32) ≤ nI (i) => absurd ((nI_leI (a := 96) (b := (i)) (by omega) (by omega)).mp qq) (by omega)), show (480 : Int32) + nI i = nI (480 + i) from nI_add 480 i, gdn (by omega) (by decide), nI_clamp (by omega), nI_1 i]
      refine ih (i + 1) f _ (by omega) (by omega) (fun j hj => ?_) (fun j hj => ?_)
      · by_cases e : j = i
        · subst e; rw [upd_s]
        · rw [upd_n (by omega)]; exact h1 j (by omega)
      · rw [upd_n (by omega)]; exact h2 j hj
  obtain ⟨tl, q1, q2, q3⟩ := k1 96 0 FU told rfl (FU_gt (by decide)) (fun j hj => absurd hj (Nat.not_lt_zero _)) (fun _ _ => rfl)
  have q1 : fMM_read_l2 FU 0 told = some tl := q1
  obtain ⟨p, p', kx, km, vx, vm, r1, r2, r3, r4, r5, r6⟩ := tok_pair hTB (i := 0) (Nat.zero_le _) ts tk nu pl tm nm
  have r5 : fMM_nextToken t (nI n) 0 pl tm nm = some (nI p', nI p, km, vm) := r5
  have hRW : RW tl (filI 96 (-1) row) := fun s hs => by
    rw [q2 s hs, show filI 96 (-1) row s = -1 from if_pos hs]
    exact ⟨rfl, Or.inl rfl⟩
  have hlp := lines_pair hTB n 0 0 FU 0 0 (filI 96 (-1) row) tl (filI 16 0 seen) ts tk nu to go 0 p p' kx km vx vm gds (by omega) (Nat.zero_le _) (Nat.le_refl _) (FU_gt (by omega)) r1 r2 r3 r4 r6 (by decide) hRW (fun w h1 h2 => by
      rw [Nat.zero_testBit, if_neg (by decide)]; exact if_pos h2) (fun w g h1 h2 h3 _ => if_pos (by omega))
  unfold fLi_read fLi_startAnew fMM_read
  rw [q1, obs, r5, obs, obs]
  dsimp only
  rcases hlp with ⟨k, pp, e1, ⟨row1, seen1, cu1, tk1, nu1, ex1, li1, to1, go1, e2⟩, told1, at1, tok1, num1, li1', tw1, gd1, e3, e4⟩ | ⟨row1, seen1, cu1, ts1, tk1, nu1, ex1, L1, to1, go1, told1, at1, pl1, tok1, num1, tw1, gd1, e1, e0, e2, e3, e4⟩
  · have e2 : fLi_read_l6 b (nI n) FU 0 (filI 96 (-1) row) (filI 16 0 seen) 0 ts tk nu 0 0 to go 0 = some (Sum.inl (row1, seen1, cu1, nI pp, tk1, nu1, ex1, li1, to1, go1, k)) := e2
    have e3 : fMM_read_l44 t (nI n) FU tl (nI p') (nI p) km vm 0 0 gds = some (Sum.inl (k, told1, at1, nI pp, tok1, num1, li1', tw1, gd1)) := e3
    rw [e2, e3]
    simp only [obs, Sum.elim_inl]
    rw [if_neg e1, if_neg e1]
    exact ⟨_, _, _, _, _, _, _, _, _, _, _, _, _, _, _, _, _, _, _, _, _, _, _, _, _, _, _, _, _, rfl, rfl, ⟨hBy, 0, by omega, rfl, rfl⟩, fun c' s hc' hs => by rw [e4 _ (by omega), q3 _ (by omega)]; exact hTo c' s hc' hs, Or.inr ⟨rfl, rfl, rfl⟩⟩
  · have e1 : fLi_read_l6 b (nI n) FU 0 (filI 96 (-1) row) (filI 16 0 seen) 0 ts tk nu 0 0 to go 0 = some (Sum.inr (Sum.inl (row1, seen1, cu1, ts1, tk1, nu1, ex1, nI L1, to1, go1, 0))) := e1
    have e2 : fMM_read_l44 t (nI n) FU tl (nI p') (nI p) km vm 0 0 gds = some (Sum.inr (told1, at1, pl1, tok1, num1, nI L1, tw1, gd1)) := e2
    have k2 : ∀ (d i f : Nat) (x : Nat → Int32), i + d = 96 → d < f → (∀ j, j < 96 → x (480 + j) = row1 j) → (∀ j, j < i → x (96 * c + j) = row1 j) → (∀ j, j < 480 → ¬ (96 * c ≤ j ∧ j < 96 * c + 96) → x j = told j) → ∃ x', fMM_copy_l54 (nI c) f (nI i) x = some x' ∧ (∀ j, j < 96 → x' (96 * c + j) = row1 j) ∧ (∀ j, j < 480 → ¬ (96 * c ≤ j ∧ j < 96 * c + 96) → x' j = told j) := by
      intro d
      induction d with
      | zero =>
        intro i f x hi hf h0 h1 h2
        obtain ⟨f, rfl⟩ : ∃ k, f = k + 1 := ⟨f - 1, by omega⟩
        have hi : i = 96 := by omega
        subst hi
        exact ⟨x, by rw [fMM_copy_l54.eq_2, if_pos (show (96 : Int32) ≤ nI (96) from (nI_leI (a := 96) (b := (96)) (by omega) (by omega)).mpr (by omega))], h1, h2⟩
      | succ d ih =>
        intro i f x hi hf h0 h1 h2
        obtain ⟨f, rfl⟩ : ∃ k, f = k + 1 := ⟨f - 1, by omega⟩
        have e5 : (96 : Int32) * nI c + nI i = nI (96 * c + i) := by rw [show (96 : Int32) * nI c + nI i = nI (c * 96 + i) from ix_ml c i 96, Nat.mul_comm]
        rw [fMM_copy_l54.eq_2, if_neg (fun qq : (96 : Int32) ≤ nI (i) => absurd ((nI_leI (a := 96) (b := (i)) (by omega) (by omega)).mp qq) (by omega)), show (480 : Int32) + nI i = nI (480 + i) from nI_add 480 i, e5, gdn (by omega) (by decide), gdn (by omega) (by decide), nI_clamp (by omega), nI_clamp (by omega), nI_1 i, h0 i (by omega)]
        refine ih (i + 1) f _ (by omega) (by omega) (fun j hj => ?_) (fun j hj => ?_) (fun j hj hne => ?_)
        · rw [upd_n (by omega)]; exact h0 j hj
        · by_cases e : j = i
          · subst e; rw [upd_s]
          · rw [upd_n (by omega)]; exact h1 j (by omega)
        · rw [upd_n (by omega)]; exact h2 j hj hne
    obtain ⟨x, z1, z2, z3⟩ := k2 96 0 FU told1 rfl (FU_gt (by decide)) (fun j hj => (e3 j hj).1) (fun j hj => absurd hj (Nat.not_lt_zero _)) (fun j hj _ => by rw [e4 j hj, q3 j hj])
    have z1 : fMM_copy_l54 (nI c) FU 0 told1 = some x := z1
    rw [e1, e2]
    simp only [obs, Sum.elim_inr, Sum.elim_inl]
    rw [if_neg (m1_ne L1 (by omega)), z1, obs]
    unfold fCo_replace
    rw [gdn (by omega) (by decide), gd_true (by decide), gdn (by omega) (by decide), gdn (by omega) (by decide), nI_clamp (by omega), obs]
    refine ⟨_, _, _, _, _, _, _, _, _, _, _, _, _, _, _, _, _, _, _, _, _, _, _, _, _, _, _, _, _, rfl, rfl, ⟨hBy, 0, by omega, rfl, rfl⟩, fun c' s hc' hs => ?_, Or.inr ⟨rfl, rfl, rfl⟩⟩
    dsimp only
    by_cases e : c' = c
    · subst e
      have hv : va_up T c' (cpyI row1 (T c') 0 0 96) c' s = row1 s := by
        rw [show va_up T c' (cpyI row1 (T c') 0 0 96) c' = cpyI row1 (T c') 0 0 96 from if_pos rfl]
        unfold cpyI
        show va_cpy row1 (T c') 0 0 96 s = _
        rw [pk_cpy_in (Nat.zero_le _) (by omega), Nat.zero_add, Nat.sub_zero]
      rw [hv, z2 s hs]
      exact ⟨rfl, (e3 s hs).2⟩
    · have hv : va_up T c (cpyI row1 (T c) 0 0 96) c' s = T c' s := by
        rw [show va_up T c (cpyI row1 (T c) 0 0 96) c' = T c' from if_neg e]
      rw [hv, z3 (96 * c' + s) (by omega) (by omega)]
      exact hTo c' s hc' hs
