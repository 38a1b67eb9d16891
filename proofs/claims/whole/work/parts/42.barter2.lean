/-! barter: level by level -/
def KB : Nat → Nat
  | 0 => 21
  | r + 1 => 20 * (1 + KB r) + 1
def LV (c s a goal : Nat) (fr to : Nat → Nat) (F Gv T Gt : Nat → Int32) (r d KK : Nat) : Prop :=
  ∀ (op : Nat → Nat) (A : Nat) (vis tr fo : Nat → Int32) (fl : Int32) (fa : Int64) (o : Nat → Int32) (mu : Nat → Int64) (br : Nat → Int32) (bl : Int32),
    (∀ k, k < d → op k < c ∧ tr k = nI (op k) ∧ o k = nI (op k)) → o d = -1 → A ≤ 9999 * 99 ^ d → ((d = 0 → A = a) ∧ (1 ≤ d → mu (d - 1) = lN A)) → (∀ g, g < 6 → vis g = if vb s to op d g = true then 1 else 0) → cntv vis 1 6 = d + 1 → ¬ vb s to op d goal = true → cur s to op d < 6 → cur s to op d ≠ goal → RBB d op 0 fo fl fa br bl →
    ∃ (K : Nat) (vis' tr' fo' : Nat → Int32) (fl' : Int32) (fa' : Int64) (o' : Nat → Int32) (mu' : Nat → Int64) (br' : Nat → Int32) (bl' : Int32), K ≤ KK ∧ fMa_search (r + 4) (nI (cur s to op d)) (lN A) (nI d) F Gv T Gt (nI c) vis tr fo fl fa (nI goal) = some (vis', tr', fo', fl', fa') ∧ (∀ n, fMM_search_l17 (nI s) (nI a) (nI goal) (nI c) F Gv T Gt (n + K) (nI d) o mu br bl fa = fMM_search_l17 (nI s) (nI a) (nI goal) (nI c) F Gv T Gt n (nI d + -1) o' mu' br' bl' fa') ∧ (∀ k, k < d → tr' k = nI (op k) ∧ o' k = nI (op k)) ∧ (∀ k, k < d → mu' k = mu k) ∧ (∀ g, g < 6 → vis' g = if vb s to op d g = true then 1 else 0) ∧ RBB d op c fo' fl' fa' br' bl'
theorem LX_push {b : Nat → Nat} {L d : Nat} {op : Nat → Nat} {i : Nat} (h : LX b L d op i) : LX b L (d + 1) (fun k => if k = d then i else op k) 0 := by
  rcases h with ⟨j, j1, j2, j3, j4⟩ | ⟨j1, j2, j3⟩
  · refine Or.inl ⟨j, by omega, j2, fun k hk => ?_, ?_⟩
    · dsimp only
      rw [if_neg (by omega)]; exact j3 k hk
    · dsimp only
      rw [if_neg (by omega)]; exact j4
  · refine Or.inl ⟨d, by omega, j1, fun k hk => ?_, ?_⟩
    · dsimp only
      rw [if_neg (by omega)]; exact j2 k hk
    · dsimp only
      rw [if_pos rfl]; exact j3
theorem LX_pop {b : Nat → Nat} {L d : Nat} {op : Nat → Nat} {i x : Nat} (h : LX b L (d + 1) (fun k => if k = d then i else op k) x) : LX b L d op (i + 1) := by
  rcases h with ⟨j, j1, j2, j3, j4⟩ | ⟨j1, j2, j3⟩
  · dsimp only at j3 j4
    by_cases e : j = d
    · subst e
      rw [if_pos rfl] at j4
      refine Or.inr ⟨j2, fun k hk => ?_, by omega⟩
      have := j3 k hk
      rwa [if_neg (by omega)] at this
    · rw [if_neg e] at j4
      refine Or.inl ⟨j, by omega, j2, fun k hk => ?_, j4⟩
      have := j3 k hk
      rwa [if_neg (by omega)] at this
  · dsimp only at j2
    refine Or.inr ⟨by omega, fun k hk => ?_, ?_⟩
    · have := j2 k (by omega)
      rwa [if_neg (by omega)] at this
    · have := j2 d (by omega)
      rw [if_pos rfl] at this
      omega
theorem RBB_map {d d' : Nat} {op op' : Nat → Nat} {i i' : Nat} {fo : Nat → Int32} {fl : Int32} {fa : Int64} {br : Nat → Int32} {bl : Int32} (h : RBB d op i fo fl fa br bl) (hm : ∀ b L, LX b L d op i → LX b L d' op' i') : RBB d' op' i' fo fl fa br bl := by
  rcases h with h | ⟨L, b, N, h1, h2, h3, h4, h5, h6, h7⟩
  · exact Or.inl h
  · exact Or.inr ⟨L, b, N, h1, h2, h3, h4, h5, h6, hm b L h7⟩
theorem pow_b {d A : Nat} (hd : d ≤ 4) (hA : A ≤ 9999 * 99 ^ d) : A < 2 ^ 50 := by
  have h1 : (99 : Nat) ^ d ≤ 99 ^ 4 := Nat.pow_le_pow_right (by decide) hd
  have h2 := Nat.mul_le_mul_left 9999 h1
  have h3 : 9999 * 99 ^ 4 < 2 ^ 50 := by decide
  omega
theorem pow_n {d A g b : Nat} (hA : A ≤ 9999 * 99 ^ d) (hb : b ≤ 99) : A / g * b ≤ 9999 * 99 ^ (d + 1) := by
  have h1 : A / g * b ≤ A * 99 := Nat.mul_le_mul (Nat.div_le_self _ _) hb
  have h2 : A * 99 ≤ 9999 * 99 ^ d * 99 := Nat.mul_le_mul_right 99 hA
  rw [Nat.pow_succ, ← Nat.mul_assoc]
  omega
theorem level {c : Nat} {fr to gv gt : Nat → Nat} {F Gv T Gt : Nat → Int32} (hK : MK c fr to gv gt F Gv T Gt) {s a goal : Nat} (hs : s < 6) (ha : a ≤ 9999) (hgl : goal < 6) {r d sub : Nat} (hr : d + r = 4) (hsub : ∀ r', r = r' + 1 → LV c s a goal fr to F Gv T Gt r' (d + 1) sub) {op : Nat → Nat} {A : Nat} (hop : ∀ k, k < d → op k < c) (hA : A ≤ 9999 * 99 ^ d) (hA0 : d = 0 → A = a) (hgoal : ¬ vb s to op d goal = true) (hcu : cur s to op d < 6) :
    ∀ (q i j n : Nat) (vis tr fo : Nat → Int32) (fl : Int32) (fa : Int64) (o : Nat → Int32) (mu : Nat → Int64) (br : Nat → Int32) (bl : Int32), i + q = c → q < n → j ≤ i → (∀ k, j ≤ k → k < i → ¬ el s fr to op d k) → (∀ k, k < d → tr k = nI (op k) ∧ o k = nI (op k)) → o d = nI j - 1 → (1 ≤ d → mu (d - 1) = lN A) → (∀ g, g < 6 → vis g = if vb s to op d g = true then 1 else 0) → cntv vis 1 6 = d + 1 → RBB d op i fo fl fa br bl →
    ∃ (K : Nat) (vis' tr' fo' : Nat → Int32) (fl' : Int32) (fa' : Int64) (o' : Nat → Int32) (mu' : Nat → Int64) (br' : Nat → Int32) (bl' : Int32), K ≤ q * (1 + sub) + 1 ∧ fMa_search_l26 (fMa_search (r + 3)) (nI (cur s to op d)) (lN A) (nI d) F Gv T Gt (nI c) (nI goal) n (nI i) vis tr fo fl fa = some (vis', tr', fo', fl', fa') ∧ (∀ n, fMM_search_l17 (nI s) (nI a) (nI goal) (nI c) F Gv T Gt (n + K) (nI d) o mu br bl fa = fMM_search_l17 (nI s) (nI a) (nI goal) (nI c) F Gv T Gt n (nI d + -1) o' mu' br' bl' fa') ∧ (∀ k, k < d → tr' k = nI (op k) ∧ o' k = nI (op k)) ∧ (∀ k, k < d → mu' k = mu k) ∧ (∀ g, g < 6 → vis' g = if vb s to op d g = true then 1 else 0) ∧ RBB d op c fo' fl' fa' br' bl' := by
  have hc := hK.1
  have hd : d ≤ 4 := by omega
  have hAb := pow_b hd hA
  intro q
  induction q with
  | zero =>
    intro i j n vis tr fo fl fa o mu br bl hi hn hj hne htr hod hmu hvis hcnt hB
    obtain ⟨n, rfl⟩ : ∃ k, n = k + 1 := ⟨n - 1, by omega⟩
    have hi : i = c := by omega
    subst hi
    refine ⟨1, vis, tr, fo, fl, fa, o, mu, br, bl, by omega, ?_, fun n => ?_, htr, fun _ _ => rfl, hvis, hB⟩
    · rw [fMa_search_l26.eq_2, if_pos (Int32.le_refl _)]
    · rw [mstep hK hs ha hgl hd (fun k hk => ⟨hop k hk, (htr k hk).2⟩) hcu hAb ⟨hA0, hmu⟩ hod hj (Or.inl rfl) hne n br bl fa, if_pos rfl]
  | succ q ih =>
    intro i j n vis tr fo fl fa o mu br bl hi hn hj hne htr hod hmu hvis hcnt hB
    obtain ⟨n, rfl⟩ : ∃ k, n = k + 1 := ⟨n - 1, by omega⟩
    have hic : i < c := by omega
    obtain ⟨hf, ht, g1, g2, g3, g4, -⟩ := hK.2 i hic
    have hv0 : vis (to i) = 0 ↔ ¬ vb s to op d (to i) = true := by
      rw [hvis (to i) ht]
      by_cases z : vb s to op d (to i) = true
      · rw [if_pos z]; exact ⟨fun w => absurd w n10, fun w => absurd z w⟩
      · rw [if_neg z]; exact ⟨fun _ => z, fun _ => rfl⟩
    have hmul : (q + 1) * (1 + sub) + 1 = (1 + sub) + (q * (1 + sub) + 1) := by rw [Nat.succ_mul]; omega
    rw [xstep hK hd hcu hAb hic (fMa_search (r + 3)) (nI goal) n vis tr fo fl fa]
    by_cases he : el s fr to op d i
    · rw [if_pos ⟨he.1, hv0.mpr he.2⟩]
      have hm := fun n => mstep hK hs ha hgl hd (fun k hk => ⟨hop k hk, (htr k hk).2⟩) hcu hAb ⟨hA0, hmu⟩ hod hj (Or.inr ⟨hic, he⟩) hne n br bl fa
      have hAn := pow_n (g := gv i) hA g4
      -- what stays when the market i has been tried
      have back : ∀ (v : Nat → Int32), (∀ g, g < 6 → v g = if (vb s to op d g || decide (to i = g)) = true then 1 else 0) → ∀ g, g < 6 → upd v (to i) 0 g = if vb s to op d g = true then 1 else 0 := by
        intro v hv g hg
        by_cases e : g = to i
        · subst e; rw [upd_s, if_neg he.2]
        · rw [upd_n e, hv g hg]
          have : decide (to i = g) = false := decide_eq_false (fun z => e z.symm)
          rw [this, Bool.or_false]
      have fwd : ∀ g, g < 6 → upd vis (to i) 1 g = if (vb s to op d g || decide (to i = g)) = true then 1 else 0 := by
        intro g hg
        by_cases e : g = to i
        · subst e
          rw [upd_s, decide_eq_true rfl, Bool.or_true, if_pos rfl]
        · rw [upd_n e, hvis g hg]
          have : decide (to i = g) = false := decide_eq_false (fun z => e z.symm)
          rw [this, Bool.or_false]
      have hcb : ∀ (v : Nat → Int32), (∀ g, g < 6 → v g = if vb s to op d g = true then 1 else 0) → cntv v 1 6 = d + 1 := by
        intro v hv
        rw [← hcnt]
        exact cntv_cong (fun g hg => by rw [hv g hg, hvis g hg])
      by_cases eg : to i = goal
      · -- the goal
        obtain ⟨fo1, fl1, fa1, br1, bl1, p1, p2, p3⟩ := keep_pair hB hd (by omega) (fun k hk => by have := hop k hk; omega) (N := A / gv i * gt i) (by
          have := pow_n (g := gv i) hA g4
          have h1 : (99 : Nat) ^ (d + 1) ≤ 99 ^ 5 := Nat.pow_le_pow_right (by decide) (by omega)
          have h2 := Nat.mul_le_mul_left 9999 h1
          have h3 : 9999 * 99 ^ 5 < 2 ^ 60 := by decide
          omega) (tr := upd tr d (nI i)) (o := upd o d (nI i)) (mu := vp_updL mu d (lN (A / gv i * gt i))) (fun k hk => by rw [upd_n (by omega), upd_n (by omega)]; exact htr k hk) ⟨upd_s _ _ _, upd_s _ _ _⟩ pk_uLs
        have hrec : fMa_search (r + 3) (nI (to i)) (lN (A / gv i * gt i)) (nI (d + 1)) F Gv T Gt (nI c) (upd vis (to i) 1) (upd tr d (nI i)) fo fl fa (nI goal) = some (upd vis (to i) 1, upd tr d (nI i), fo1, fl1, fa1) := by
          show fMa_search ((r + 2) + 1) _ _ _ _ _ _ _ _ _ _ _ _ _ _ = _
          rw [fMa_search.eq_2, if_pos (by rw [eg]), p1, obs]
        rw [hrec, obs]
        dsimp only
        obtain ⟨K, vis', tr', fo', fl', fa', o', mu', br', bl', w1, w2, w3, w4, w5, w6, w7⟩ := ih (i + 1) (i + 1) n (upd (upd vis (to i) 1) (to i) 0) (upd tr d (nI i)) fo1 fl1 fa1 (upd o d (nI i)) (vp_updL mu d (lN (A / gv i * gt i))) br1 bl1 (by omega) (by omega) (Nat.le_refl _) (fun k a b => by omega) (fun k hk => by rw [upd_n (by omega), upd_n (by omega)]; exact htr k hk) (by rw [upd_s, nI_pred]) (fun h1 => by rw [pk_uLn (by omega)]; exact hmu h1) (back _ fwd) (hcb _ (back _ fwd)) p3
        refine ⟨1 + K, vis', tr', fo', fl', fa', o', mu', br', bl', by omega, w2, fun n => ?_, w4, fun k hk => by rw [w5 k hk, pk_uLn (by omega)], w6, w7⟩
        rw [show n + (1 + K) = (n + K) + 1 by omega, hm (n + K), if_neg (by omega), if_pos eg, p2, obs]
        exact w3 n
      · -- a level more
        have hcnt1 : cntv (upd vis (to i) 1) 1 6 = d + 2 := by
          rw [cntv_upd (by rw [hv0.mpr he.2]; decide) ht, hcnt]
        have hg1 : ¬ (vb s to op d goal || decide (to i = goal)) = true := by
          rw [decide_eq_false eg, Bool.or_false]; exact hgoal
        have hlt := cntv_lt (f := upd vis (to i) 1) (v := 1) (j := goal) (by rw [fwd goal hgl, if_neg hg1]; decide) hgl
        obtain ⟨r', hr'⟩ : ∃ r', r = r' + 1 := ⟨r - 1, by omega⟩
        have hvb : ∀ g, vb s to (fun k => if k = d then i else op k) (d + 1) g = (vb s to op d g || decide (to i = g)) := by
          intro g
          show (vb s to (fun k => if k = d then i else op k) d g || decide (to (if d = d then i else op d) = g)) = _
          rw [if_pos rfl, vb_cong (op := fun k => if k = d then i else op k) (op' := op) (fun k hk => if_neg (by omega))]
        have hcur : cur s to (fun k => if k = d then i else op k) (d + 1) = to i := by
          show to (if d = d then i else op d) = to i
          rw [if_pos rfl]
        obtain ⟨K1, vis1, tr1, fo1, fl1, fa1, o1, mu1, br1, bl1, p1, p2, p3, p4, p5, p6, p7⟩ := hsub r' hr' (fun k => if k = d then i else op k) (A / gv i * gt i) (upd vis (to i) 1) (upd tr d (nI i)) fo fl fa (upd (upd o d (nI i)) (d + 1) (-1)) (vp_updL mu d (lN (A / gv i * gt i))) br bl (fun k hk => by
          by_cases e : k = d
          · subst e
            rw [if_pos rfl, upd_s, upd_n (by omega), upd_s]
            exact ⟨hic, rfl, rfl⟩
          · rw [if_neg e, upd_n e, upd_n (by omega), upd_n e]
            exact ⟨hop k (by omega), htr k (by omega)⟩) (upd_s _ _ _) hAn ⟨fun z => by omega, fun _ => pk_uLs⟩ (fun g hg => by rw [hvb]; exact fwd g hg) hcnt1 (by rw [hvb]; exact hg1) (by rw [hcur]; exact ht) (by rw [hcur]; exact eg) (RBB_map hB (fun b L => LX_push))
        rw [hcur] at p2
        subst hr'
        have p2 : fMa_search (r' + 1 + 3) (nI (to i)) (lN (A / gv i * gt i)) (nI (d + 1)) F Gv T Gt (nI c) (upd vis (to i) 1) (upd tr d (nI i)) fo fl fa (nI goal) = some (vis1, tr1, fo1, fl1, fa1) := by
          rw [show r' + 1 + 3 = r' + 4 by omega]; exact p2
        rw [p2, obs]
        dsimp only
        have hb1 : ∀ g, g < 6 → upd vis1 (to i) 0 g = if vb s to op d g = true then 1 else 0 := back vis1 (fun g hg => by rw [p6 g hg, hvb])
        have p4d := p4 d (by omega)
        rw [if_pos rfl] at p4d
        obtain ⟨K, vis', tr', fo', fl', fa', o', mu', br', bl', w1, w2, w3, w4, w5, w6, w7⟩ := ih (i + 1) (i + 1) n (upd vis1 (to i) 0) tr1 fo1 fl1 fa1 o1 mu1 br1 bl1 (by omega) (by omega) (Nat.le_refl _) (fun k a b => by omega) (fun k hk => by
          have := p4 k (by omega)
          rwa [if_neg (by omega)] at this) (by rw [p4d.2, nI_pred]) (fun h1 => by rw [p5 (d - 1) (by omega), pk_uLn (by omega)]; exact hmu h1) hb1 (hcb _ hb1) (RBB_map p7 (fun b L => LX_pop))
        refine ⟨1 + K1 + K, vis', tr', fo', fl', fa', o', mu', br', bl', by omega, w2, fun n => ?_, w4, fun k hk => by rw [w5 k hk, p5 k (by omega), pk_uLn (by omega)], w6, w7⟩
        rw [show n + (1 + K1 + K) = ((n + K) + K1) + 1 by omega, hm (n + K + K1), if_neg (by omega), if_neg eg, p3 (n + K), show nI (d + 1) + -1 = nI d from by rw [show nI (d + 1) + -1 = nI (d + 1) - 1 from (Int32.sub_eq_add_neg _ _).symm, nI_pred]]
        exact w3 n
    · rw [if_neg (fun z => he ⟨z.1, hv0.mp z.2⟩)]
      obtain ⟨K, vis', tr', fo', fl', fa', o', mu', br', bl', w1, w2, w3⟩ := ih (i + 1) j n vis tr fo fl fa o mu br bl (by omega) (by omega) (by omega) (fun k a b => by
        by_cases e : k = i
        · subst e; exact he
        · exact hne k a (by omega)) htr hod hmu hvis hcnt (RBB_mono hB (by omega))
      exact ⟨K, vis', tr', fo', fl', fa', o', mu', br', bl', by omega, w2, w3⟩
theorem levels {c : Nat} {fr to gv gt : Nat → Nat} {F Gv T Gt : Nat → Int32} (hK : MK c fr to gv gt F Gv T Gt) {s a goal : Nat} (hs : s < 6) (ha : a ≤ 9999) (hgl : goal < 6) : ∀ (r d : Nat), d + r = 4 → LV c s a goal fr to F Gv T Gt r d (KB r) := by
  have hc := hK.1
  have one : ∀ (r d sub : Nat), d + r = 4 → (∀ r', r = r' + 1 → LV c s a goal fr to F Gv T Gt r' (d + 1) sub) → 20 * (1 + sub) + 1 ≤ KB r → LV c s a goal fr to F Gv T Gt r d (KB r) := by
    intro r d sub hr hsub hKB op A vis tr fo fl fa o mu br bl h1 h2 h3 h4 h5 h6 h7 h8 h9 h10
    obtain ⟨K, vis', tr', fo', fl', fa', o', mu', br', bl', w1, w2, w3⟩ := level hK hs ha hgl hr hsub (op := op) (A := A) (fun k hk => (h1 k hk).1) h3 h4.1 h7 h8 c 0 0 FU vis tr fo fl fa o mu br bl (by omega) (FU_gt (by omega)) (Nat.le_refl _) (fun k a b => by omega) (fun k hk => (h1 k hk).2) (by rw [h2]; rfl) h4.2 h5 h6 h10
    have hle : c * (1 + sub) ≤ 20 * (1 + sub) := Nat.mul_le_mul_right _ hc
    refine ⟨K, vis', tr', fo', fl', fa', o', mu', br', bl', by omega, ?_, w3⟩
    have w2 : fMa_search_l26 (fMa_search (r + 3)) (nI (cur s to op d)) (lN A) (nI d) F Gv T Gt (nI c) (nI goal) FU 0 vis tr fo fl fa = some (vis', tr', fo', fl', fa') := w2
    show fMa_search ((r + 3) + 1) _ _ _ _ _ _ _ _ _ _ _ _ _ _ = _
    rw [fMa_search.eq_2, if_neg (fun z => h9 ((nI_eq (by omega) (by omega)).mp z)), if_pos (show nI (d) < (5 : Int32) from (nI_ltI (a := (d)) (b := 5) (by omega) (by omega)).mpr (by omega)), w2, obs]
  intro r
  induction r with
  | zero => intro d hd; exact one 0 d 0 hd (fun r' h => by omega) (by decide)
  | succ r ih =>
    intro d hd
    refine one (r + 1) d (KB r) hd (fun r' h => ?_) (Nat.le_refl _)
    have : r' = r := by omega
    subst this
    exact ih (d + 1) (by omega)
theorem op_barter {f1 v1 f2 v2 : Nat → Int32} {n m : Int32} {g1 b1 g2 b2 : Nat → Int32} (h : RMa f1 v1 f2 v2 n m g1 b1 g2 b2) {best : Nat → Int32} {bn bm : Int32} {row : Nat → Int32} (hB : RBe best bn bm row) (vis tr fo : Nat → Int32) (fl : Int32) (fa : Int64) (gl : Int32) (o : Nat → Int32) (mu : Nat → Int64) (br : Nat → Int32) (bl : Int32) (ba : Int64) (x1 x2 x3 : Int32) :
    ∃ (r : Int32) (vis' tr' fo' : Nat → Int32) (fl' : Int32) (fa' : Int64) (gl' : Int32) (best' : Nat → Int32) (bn' : Int32) (o' : Nat → Int32) (mu' : Nat → Int64) (br' : Nat → Int32) (bl' bm' : Int32) (row' : Nat → Int32) (ba' : Int64), fTL_barter x1 x2 x3 f1 v1 f2 v2 n vis tr fo fl fa gl best bn = some (r, vis', tr', fo', fl', fa', gl', best', bn') ∧ fMM_barter x1 x2 x3 m g1 b1 g2 b2 o mu br bl bm row ba = some (r, o', mu', br', bl', bm', row', ba') ∧ RBe best' bn' bm' row' := by
  obtain ⟨rfl, rfl, rfl, rfl, c, hc, rfl, rfl, hv⟩ := h
  unfold fTL_barter fMM_barter
  rcases good_or x1 with ⟨m1, t1⟩ | ⟨s, hs, rfl, m1, t1⟩
  · exact ⟨-1, vis, tr, fo, fl, fa, gl, best, bn, o, mu, br, bl, bm, row, ba, by rw [if_pos t1], by rw [if_pos m1], hB⟩
  rw [if_neg t1, if_neg m1]
  rcases good_or x3 with ⟨m1, t1⟩ | ⟨goal, hgl, rfl, m1, t1⟩
  · exact ⟨-1, vis, tr, fo, fl, fa, gl, best, bn, o, mu, br, bl, bm, row, ba, by rw [if_pos t1], by rw [if_pos m1], hB⟩
  rw [if_neg t1, if_neg m1]
  by_cases e : nI s = nI goal
  · exact ⟨-1, vis, tr, fo, fl, fa, gl, best, bn, o, mu, br, bl, bm, row, ba, by rw [if_pos e], by rw [if_pos e], hB⟩
  rw [if_neg e, if_neg e]
  have hsg : s ≠ goal := fun q => e (by rw [q])
  rcases in_or x2 1 9999 1 9999 rfl rfl (by decide) (by decide) with ⟨m3, t3⟩ | ⟨a, ha1, ha, rfl, m3, t3⟩
  · exact ⟨-1, vis, tr, fo, fl, fa, gl, best, bn, o, mu, br, bl, bm, row, ba, by rw [if_pos t3], by rw [if_pos m3], hB⟩
  rw [if_neg t3, if_neg m3]
  have hK : MK c (fun k => (f1 k).toNatClampNeg) (fun k => (f2 k).toNatClampNeg) (fun k => (v1 k).toNatClampNeg) (fun k => (v2 k).toNatClampNeg) f1 v1 f2 v2 := by
    refine ⟨hc, fun k hk => ?_⟩
    obtain ⟨i, j, x, y, i1, i2, i3, i4, i5, i6, i7, e1, e2, e3, e4⟩ := hv k hk
    dsimp only
    rw [e1, e2, e3, e4, nI_clamp (by omega), nI_clamp (by omega), nI_clamp (by omega), nI_clamp (by omega)]
    exact ⟨i1, i2, i4, i5, i6, i7, rfl, rfl, rfl, rfl⟩
  have hlv := levels hK hs ha hgl 4 0 rfl
  obtain ⟨K, vis', tr', fo', fl', fa', o', mu', br', bl', w1, w2, w3, -, -, -, w7⟩ := hlv (fun _ => 0) a (upd (filI 6 0 vis) s 1) tr fo 0 (-1) (upd o 0 (-1)) mu br bl (fun k hk => absurd hk (Nat.not_lt_zero _)) (upd_s _ _ _) (by rw [Nat.pow_zero]; omega) ⟨fun _ => rfl, fun z => by omega⟩ (fun g hg => by
      show _ = if decide (g = s) = true then 1 else 0
      by_cases q : g = s
      · subst q; rw [upd_s, if_pos (decide_eq_true rfl)]
      · rw [upd_n q, if_neg (by rw [decide_eq_true_iff]; exact q)]
        exact if_pos hg) (by
      rw [cntv_upd (by rw [show filI 6 0 vis s = 0 from if_pos hs]; decide) hs]
      have : ∀ k, k ≤ 6 → cntv (filI 6 0 vis) 1 k = 0 := by
        intro k
        induction k with
        | zero => intro _; rfl
        | succ k ih =>
          intro hk
          show cntv (filI 6 0 vis) 1 k + _ = 0
          rw [ih (by omega), show filI 6 0 vis k = 0 from if_pos (by omega), if_neg (by decide)]
      rw [this 6 (Nat.le_refl _)]) (by
      show ¬ decide (goal = s) = true
      rw [decide_eq_true_iff]; exact fun z => hsg z.symm) hs hsg (Or.inl rfl)
  have hKb : K ≤ 3536841 := w1
  have w2 : fMa_search 8 (nI s) (lN a) 0 f1 v1 f2 v2 (nI c) (upd (filI 6 0 vis) s 1) tr fo 0 (-1) (nI goal) = some (vis', tr', fo', fl', fa') := w2
  have w3 : fMM_search_l17 (nI s) (nI a) (nI goal) (nI c) f1 v1 f2 v2 FU 0 (upd o 0 (-1)) mu br bl (-1) = some (o', mu', br', bl', fa') := by
    have h1 := w3 (999999999 - K + 1)
    rw [show 999999999 - K + 1 + K = FU from by unfold FU; omega] at h1
    have h1 : fMM_search_l17 (nI s) (nI a) (nI goal) (nI c) f1 v1 f2 v2 FU 0 (upd o 0 (-1)) mu br bl (-1) = _ := h1
    rw [h1, fMM_search_l17.eq_2, if_pos (show nI 0 + -1 < (0 : Int32) by decide)]
  unfold fMa_findBest fMM_search
  rw [gdn hs (by decide), nI_clamp (by omega), nI_l (by omega), w2, obs, show (0 : Int32).toNatClampNeg = 0 from rfl, w3, obs, obs]
  dsimp only
  rcases w7 with rfl | ⟨L, b, N, rfl, h2, h3, rfl, rfl, h6, -⟩
  · rw [if_pos ((lg_cmp_eq _ _).mpr rfl), obs]
    dsimp only
    rw [if_neg (show ¬ (1000000000 : Int64) < -1 by decide), if_neg (show ¬ (0 : Int32) ≤ lg_cmp (-1) 0 by decide)]
    exact ⟨_, _, _, _, _, _, _, _, _, _, _, _, _, _, _, _, rfl, rfl, hB⟩
  · have hne : ¬ lN N = (-1 : Int64) := fun z => by
      have h1 := congrArg Int64.toInt z
      rw [pk_lT (by omega)] at h1
      have : (-1 : Int64).toInt = -1 := by decide
      omega
    rw [if_neg (fun z => hne ((lg_cmp_eq _ _).mp z)), gd_true (by decide), obs, if_pos (show (0 : Int32) ≤ lg_cmp (lN N) 0 from (lg_cmp_ge _ _).mpr ((pk_lLE (a := 0) (b := N) (by decide) (by omega)).mpr (Nat.zero_le _)))]
    dsimp only
    have hM : ∃ row', fMM_barter_l61 br' (nI L) FU 0 row = some row' ∧ ∀ k, k < L → row' k = br' k := by
      have key : ∀ (q k n : Nat) (row : Nat → Int32), k + q = L → q < n → (∀ j, j < k → row j = br' j) → ∃ row', fMM_barter_l61 br' (nI L) n (nI k) row = some row' ∧ ∀ k, k < L → row' k = br' k := by
        intro q
        induction q with
        | zero =>
          intro k n row hk hn hI
          obtain ⟨n, rfl⟩ : ∃ k, n = k + 1 := ⟨n - 1, by omega⟩
          have hk : k = L := by omega
          subst hk
          exact ⟨row, by rw [fMM_barter_l61.eq_2, if_pos (Int32.le_refl _)], hI⟩
        | succ q ih =>
          intro k n row hk hn hI
          obtain ⟨n, rfl⟩ : ∃ k, n = k + 1 := ⟨n - 1, by omega⟩
          rw [fMM_barter_l61.eq_2, if_neg (fun qq : nI (L) ≤ nI (k) => absurd ((nI_leI (a := (L)) (b := (k)) (by omega) (by omega)).mp qq) (by omega)), gdn (by omega) (by decide), gdn (by omega) (by decide), nI_clamp (by omega), nI_1 k]
          refine ih (k + 1) n _ (by omega) (by omega) (fun j hj => ?_)
          by_cases e : j = k
          · subst e; rw [upd_s]
          · rw [upd_n e]; exact hI j (by omega)
      exact key L 0 FU row (by omega) (FU_gt (by omega)) (fun j hj => absurd hj (Nat.not_lt_zero _))
    obtain ⟨row', q1, q2⟩ := hM
    rw [q1, obs]
    have hR : RBe (cpyI fo' best 0 0 5) (nI L) (nI L) row' := by
      refine ⟨L, h3, rfl, rfl, fun k hk => ?_⟩
      rw [q2 k hk, (h6 k hk).2.1, ← (h6 k hk).1]
      unfold cpyI
      show va_cpy fo' best 0 0 5 k = _
      rw [pk_cpy_in (Nat.zero_le _) (by omega), Nat.zero_add, Nat.sub_zero]
    by_cases q : N ≤ 1000000000
    · rw [if_neg (fun z : (1000000000 : Int64) < lN N => absurd ((pk_lLT (a := 1000000000) (by decide) (by omega)).mp z) (by omega)), if_pos (show lg_cmp (lN N) 1000000000 ≤ 0 from (lg_cmp_le _ _).mpr ((pk_lLE (a := N) (b := 1000000000) (by omega) (by decide)).mpr q))]
      exact ⟨_, _, _, _, _, _, _, _, _, _, _, _, _, _, _, _, rfl, rfl, hR⟩
    · rw [if_pos (show (1000000000 : Int64) < lN N from (pk_lLT (a := 1000000000) (by decide) (by omega)).mpr (by omega)), if_neg (fun z : lg_cmp (lN N) 1000000000 ≤ 0 => q ((pk_lLE (a := N) (b := 1000000000) (by omega) (by decide)).mp ((lg_cmp_le _ _).mp z)))]
      exact ⟨_, _, _, _, _, _, _, _, _, _, _, _, _, _, _, _, rfl, rfl, hR⟩
