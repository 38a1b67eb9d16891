/-! barter: two searches of the same tree -/
def MK (c : Nat) (fr to gv gt : Nat → Nat) (F A T B : Nat → Int32) : Prop := c ≤ 20 ∧ ∀ k, k < c → fr k < 6 ∧ to k < 6 ∧ 1 ≤ gv k ∧ gv k ≤ 99 ∧ 1 ≤ gt k ∧ gt k ≤ 99 ∧ F k = nI (fr k) ∧ T k = nI (to k) ∧ A k = nI (gv k) ∧ B k = nI (gt k)
/-- the goods that a row of markets has been through -/
def vb (s : Nat) (to op : Nat → Nat) : Nat → Nat → Bool
  | 0, g => decide (g = s)
  | d + 1, g => vb s to op d g || decide (to (op d) = g)
def cur (s : Nat) (to op : Nat → Nat) : Nat → Nat
  | 0 => s
  | d + 1 => to (op d)
theorem vb_iff {s : Nat} {to op : Nat → Nat} {g : Nat} : ∀ {d : Nat}, vb s to op d g = true ↔ g = s ∨ ∃ j, j < d ∧ to (op j) = g
  | 0 => by
    show decide (g = s) = true ↔ _
    rw [decide_eq_true_iff]
    constructor
    · exact Or.inl
    · rintro (h | ⟨j, h, _⟩)
      · exact h
      · omega
  | d + 1 => by
    show (vb s to op d g || decide (to (op d) = g)) = true ↔ _
    rw [Bool.or_eq_true, decide_eq_true_iff, vb_iff (d := d)]
    constructor
    · rintro ((h | ⟨j, h1, h2⟩) | h)
      · exact Or.inl h
      · exact Or.inr ⟨j, by omega, h2⟩
      · exact Or.inr ⟨d, by omega, h⟩
    · rintro (h | ⟨j, h1, h2⟩)
      · exact Or.inl (Or.inl h)
      · by_cases e : j = d
        · subst e; exact Or.inr h2
        · exact Or.inl (Or.inr ⟨j, by omega, h2⟩)
theorem vb_cong {s : Nat} {to op op' : Nat → Nat} {g d : Nat} (h : ∀ k, k < d → op k = op' k) : vb s to op d g = vb s to op' d g := by
  induction d with
  | zero => rfl
  | succ d ih =>
    show (vb s to op d g || decide (to (op d) = g)) = (vb s to op' d g || decide (to (op' d) = g))
    rw [ih (fun k hk => h k (by omega)), h d (by omega)]
theorem cur_cong {s : Nat} {to op op' : Nat → Nat} {d : Nat} (h : ∀ k, k < d → op k = op' k) : cur s to op d = cur s to op' d := by
  cases d with
  | zero => rfl
  | succ d => show to (op d) = to (op' d); rw [h d (by omega)]
theorem through_n {c : Nat} {fr to gv gt : Nat → Nat} {F A T B : Nat → Int32} (hK : MK c fr to gv gt F A T B) {s d g : Nat} {op : Nat → Nat} {o : Nat → Int32} (hs : s < 6) (hg : g < 6) (hd : d ≤ 5) (ho : ∀ k, k < d → op k < c ∧ o k = nI (op k)) : fMM_wasThrough (nI g) (nI s) (nI d) T o = some (if vb s to op d g = true then 1 else 0) := by
  have hc := hK.1
  unfold fMM_wasThrough
  by_cases e : g = s
  · rw [if_pos (show nI g = nI s by rw [e]), if_pos (vb_iff.mpr (Or.inl e))]
  · rw [if_neg (fun z => e ((nI_eq (by omega) (by omega)).mp z))]
    have key : ∀ (q k n : Nat), k + q = d → q < n → ((∃ j, k ≤ j ∧ j < d ∧ to (op j) = g) → fMM_wasThrough_l10 (nI g) (nI d) T o n (nI k) = some (Sum.inl ())) ∧ ((¬ ∃ j, k ≤ j ∧ j < d ∧ to (op j) = g) → fMM_wasThrough_l10 (nI g) (nI d) T o n (nI k) = some (Sum.inr ())) := by
      intro q
      induction q with
      | zero =>
        intro k n hk hn
        obtain ⟨n, rfl⟩ : ∃ k, n = k + 1 := ⟨n - 1, by omega⟩
        have hk : k = d := by omega
        subst hk
        refine ⟨fun ⟨j, h1, h2, _⟩ => by omega, fun _ => ?_⟩
        rw [fMM_wasThrough_l10.eq_2, if_pos (Int32.le_refl _)]
      | succ q ih =>
        intro k n hk hn
        obtain ⟨n, rfl⟩ : ∃ k, n = k + 1 := ⟨n - 1, by omega⟩
        obtain ⟨h1, h2⟩ := ho k (by omega)
        obtain ⟨-, ht, -, -, -, -, -, hT, -⟩ := hK.2 (op k) h1
        have hgo : fMM_wasThrough_l10 (nI g) (nI d) T o (n + 1) (nI k) = if to (op k) = g then some (Sum.inl ()) else fMM_wasThrough_l10 (nI g) (nI d) T o n (nI (k + 1)) := by
          rw [fMM_wasThrough_l10.eq_2, if_neg (fun qq : nI (d) ≤ nI (k) => absurd ((nI_leI (a := (d)) (b := (k)) (by omega) (by omega)).mp qq) (by omega)), gdn (by omega) (by decide), nI_clamp (by omega), h2, gdn (by omega) (by decide), nI_clamp (by omega), hT, nI_1 k]
          by_cases z : to (op k) = g
          · rw [if_pos z, if_pos (by rw [z])]
          · rw [if_neg z, if_neg (fun w => z ((nI_eq (by omega) (by omega)).mp w))]
        rw [hgo]
        obtain ⟨i1, i2⟩ := ih (k + 1) n (by omega) (by omega)
        by_cases z : to (op k) = g
        · rw [if_pos z]
          exact ⟨fun _ => rfl, fun w => absurd ⟨k, by omega, by omega, z⟩ w⟩
        · rw [if_neg z]
          refine ⟨fun ⟨j, w1, w2, w3⟩ => i1 ⟨j, ?_, w2, w3⟩, fun w => i2 (fun ⟨j, w1, w2, w3⟩ => w ⟨j, by omega, w2, w3⟩)⟩
          by_cases w : j = k
          · subst w; exact absurd w3 z
          · omega
    obtain ⟨k1, k2⟩ := key d 0 FU (by omega) (FU_gt (by omega))
    by_cases z : ∃ j, j < d ∧ to (op j) = g
    · obtain ⟨j, z1, z2⟩ := z
      have k1 : fMM_wasThrough_l10 (nI g) (nI d) T o FU 0 = some (Sum.inl ()) := k1 ⟨j, by omega, z1, z2⟩
      rw [k1, if_pos (vb_iff.mpr (Or.inr ⟨j, z1, z2⟩))]; rfl
    · have k2 : fMM_wasThrough_l10 (nI g) (nI d) T o FU 0 = some (Sum.inr ()) := k2 (fun ⟨j, _, z1, z2⟩ => z ⟨j, z1, z2⟩)
      rw [k2, if_neg (fun w => by rcases vb_iff.mp w with w | w; exact e w; exact z w)]; rfl
def el (s : Nat) (fr to op : Nat → Nat) (d i : Nat) : Prop := fr i = cur s to op d ∧ ¬ vb s to op d (to i) = true
theorem l58_n {c : Nat} {fr to gv gt : Nat → Nat} {F A T B : Nat → Int32} (hK : MK c fr to gv gt F A T B) {s d : Nat} {op : Nat → Nat} {o : Nat → Int32} (hs : s < 6) (hd : d ≤ 5) (ho : ∀ k, k < d → op k < c ∧ o k = nI (op k)) (hcu : cur s to op d < 6) {a2 a3 : Int32} {i : Nat} (hi : i = c ∨ (i < c ∧ el s fr to op d i)) : ∀ (q j n : Nat), j + q = i → q < n → (∀ k, j ≤ k → k < i → ¬ el s fr to op d k) → fMM_search_l58 (nI s) a2 a3 (nI d) (nI (cur s to op d)) (nI c) F T o n (nI j) = some (nI i) := by
  have hc := hK.1
  intro q
  induction q with
  | zero =>
    intro j n hj hn hne
    obtain ⟨n, rfl⟩ : ∃ k, n = k + 1 := ⟨n - 1, by omega⟩
    have hj : j = i := by omega
    subst hj
    rcases hi with hi | ⟨hi, he1, he2⟩
    · rw [fMM_search_l58.eq_2, hi, if_pos (Int32.le_refl _)]
    · obtain ⟨-, ht, -, -, -, -, hF, hT, -⟩ := hK.2 j hi
      rw [fMM_search_l58.eq_2, if_neg (fun qq : nI (c) ≤ nI (j) => absurd ((nI_leI (a := (c)) (b := (j)) (by omega) (by omega)).mp qq) (by omega)), gdn (by omega) (by decide), gdn (by omega) (by decide), nI_clamp (by omega), hF, hT, he1, if_pos rfl, through_n hK hs ht hd ho, if_neg he2, obs, if_pos rfl]
  | succ q ih =>
    intro j n hj hn hne
    obtain ⟨n, rfl⟩ : ∃ k, n = k + 1 := ⟨n - 1, by omega⟩
    have hjc : j < c := by rcases hi with hi | ⟨hi, _⟩ <;> omega
    obtain ⟨hf, ht, -, -, -, -, hF, hT, -⟩ := hK.2 j hjc
    have hgo : fMM_search_l58 (nI s) a2 a3 (nI d) (nI (cur s to op d)) (nI c) F T o (n + 1) (nI j) = fMM_search_l58 (nI s) a2 a3 (nI d) (nI (cur s to op d)) (nI c) F T o n (nI (j + 1)) := by
      rw [fMM_search_l58.eq_2, if_neg (fun qq : nI (c) ≤ nI (j) => absurd ((nI_leI (a := (c)) (b := (j)) (by omega) (by omega)).mp qq) (by omega)), gdn (by omega) (by decide), gdn (by omega) (by decide), nI_clamp (by omega), hF, hT, nI_1 j]
      by_cases e1 : fr j = cur s to op d
      · rw [if_pos (by rw [e1]), through_n hK hs ht hd ho]
        by_cases e2 : vb s to op d (to j) = true
        · rw [if_pos e2, obs, if_neg n10]
        · exact absurd ⟨e1, e2⟩ (hne j (Nat.le_refl _) (by omega))
      · rw [if_neg (fun z => e1 ((nI_eq (by omega) (by omega)).mp z))]
    rw [hgo]
    exact ih (j + 1) n (by omega) (by omega) (fun k h1 h2 => hne k (by omega) h2)
theorem amt {A g b : Nat} (hA : A < 2 ^ 50) (h1 : 1 ≤ g) (h2 : g ≤ 99) (h4 : b ≤ 99) : lN A / (nI g).toInt64 * (nI b).toInt64 = lN (A / g * b) := by
  rw [nI_l (by omega), nI_l (by omega), pk_lDiv (by omega) (by omega) (by omega), lN_mul]
theorem nzL_n {g : Nat} (h1 : 1 ≤ g) (h2 : g ≤ 99) : nzL (nI g).toInt64 = true := by
  rw [nI_l (by omega)]
  unfold nzL
  simp only [Bool.not_eq_true', decide_eq_false_iff_not]
  intro z
  have := (pk_lEQ (a := g) (b := 0) (by omega) (by decide)).mp z
  omega
/-- one turn of the reference's loop -/
theorem mstep {c : Nat} {fr to gv gt : Nat → Nat} {F Gv T Gt : Nat → Int32} (hK : MK c fr to gv gt F Gv T Gt) {s d a goal A : Nat} {op : Nat → Nat} {o : Nat → Int32} {mu : Nat → Int64} (hs : s < 6) (ha : a ≤ 9999) (hgoal : goal < 6) (hd : d ≤ 4) (ho : ∀ k, k < d → op k < c ∧ o k = nI (op k)) (hcu : cur s to op d < 6) (hA : A < 2 ^ 50) (hmu : (d = 0 → A = a) ∧ (1 ≤ d → mu (d - 1) = lN A)) {j i : Nat} (hod : o d = nI j - 1) (hj : j ≤ i) (hi : i = c ∨ (i < c ∧ el s fr to op d i)) (hne : ∀ k, j ≤ k → k < i → ¬ el s fr to op d k) (n : Nat) (br : Nat → Int32) (bl : Int32) (fa : Int64) :
    fMM_search_l17 (nI s) (nI a) (nI goal) (nI c) F Gv T Gt (n + 1) (nI d) o mu br bl fa = if i = c then fMM_search_l17 (nI s) (nI a) (nI goal) (nI c) F Gv T Gt n (nI d + -1) o mu br bl fa else if to i = goal then ob (fMM_found (nI (d + 1)) (upd o d (nI i)) (vp_updL mu d (lN (A / gv i * gt i))) br bl fa) (fun e => fMM_search_l17 (nI s) (nI a) (nI goal) (nI c) F Gv T Gt n (nI d) (upd o d (nI i)) (vp_updL mu d (lN (A / gv i * gt i))) e.1 e.2.1 e.2.2) else fMM_search_l17 (nI s) (nI a) (nI goal) (nI c) F Gv T Gt n (nI (d + 1)) (upd (upd o d (nI i)) (d + 1) (-1)) (vp_updL mu d (lN (A / gv i * gt i))) br bl fa := by
  have hc := hK.1
  have hic : i ≤ c := by rcases hi with h | ⟨h, _⟩ <;> omega
  have hl := l58_n hK (a2 := nI a) (a3 := nI goal) hs (by omega) ho hcu hi (i - j) j FU (by omega) (FU_gt (by omega)) hne
  have hst : o d + 1 = nI j := by rw [hod]; exact Int32.sub_add_cancel _ _
  have hd6 : d < 6 := by omega
  -- the turn, said once
  have fin : ∀ (x : Int64), x = lN A → (if nI i = nI c then fMM_search_l17 (nI s) (nI a) (nI goal) (nI c) F Gv T Gt n (nI d + -1) o mu br bl fa else gd (inb (nI i) 20) (gd (nzL ((Gv (nI i).toNatClampNeg)).toInt64) (gd (inb (nI i) 20) (gd (inb (nI i) 20) ((if (T (nI i).toNatClampNeg) = nI goal then ob (fMM_found (nI (d + 1)) (upd o d (nI i)) (vp_updL mu d ((x / ((Gv (nI i).toNatClampNeg)).toInt64) * ((Gt (nI i).toNatClampNeg)).toInt64)) br bl fa) (fun e => fMM_search_l17 (nI s) (nI a) (nI goal) (nI c) F Gv T Gt n (nI d) (upd o d (nI i)) (vp_updL mu d ((x / ((Gv (nI i).toNatClampNeg)).toInt64) * ((Gt (nI i).toNatClampNeg)).toInt64)) e.1 e.2.1 e.2.2) else fMM_search_l17 (nI s) (nI a) (nI goal) (nI c) F Gv T Gt n (nI (d + 1)) (upd (upd o d (nI i)) (d + 1) (-1)) (vp_updL mu d ((x / ((Gv (nI i).toNatClampNeg)).toInt64) * ((Gt (nI i).toNatClampNeg)).toInt64)) br bl fa)))))) = if i = c then fMM_search_l17 (nI s) (nI a) (nI goal) (nI c) F Gv T Gt n (nI d + -1) o mu br bl fa else if to i = goal then ob (fMM_found (nI (d + 1)) (upd o d (nI i)) (vp_updL mu d (lN (A / gv i * gt i))) br bl fa) (fun e => fMM_search_l17 (nI s) (nI a) (nI goal) (nI c) F Gv T Gt n (nI d) (upd o d (nI i)) (vp_updL mu d (lN (A / gv i * gt i))) e.1 e.2.1 e.2.2) else fMM_search_l17 (nI s) (nI a) (nI goal) (nI c) F Gv T Gt n (nI (d + 1)) (upd (upd o d (nI i)) (d + 1) (-1)) (vp_updL mu d (lN (A / gv i * gt i))) br bl fa := by
    intro x hx
    by_cases e : i = c
    · rw [if_pos e, if_pos (by rw [e])]
    · rw [if_neg e, if_neg (fun z => e ((nI_eq (by omega) (by omega)).mp z))]
      obtain ⟨hf, ht, g1, g2, g3, g4, hF, hT, hGv, hGt⟩ := hK.2 i (by omega)
      simp only [gdn (show i < 20 by omega) (show 20 < 2 ^ 31 by decide), nI_clamp (show i < 2 ^ 31 by omega), hGv, hGt, hT, gd_true (nzL_n g1 g2), hx, amt hA g1 g2 g4]
      by_cases e2 : to i = goal
      · rw [if_pos e2, if_pos (by rw [e2])]
      · rw [if_neg e2, if_neg (fun z => e2 ((nI_eq (by omega) (by omega)).mp z))]
  cases d with
  | zero =>
    have hl : fMM_search_l58 (nI s) (nI a) (nI goal) (nI 0) (nI s) (nI c) F T o FU (nI j) = some (nI i) := hl
    rw [← fin (nI a).toInt64 (by rw [nI_l (by omega), hmu.1 rfl])]
    rw [fMM_search_l17.eq_2, if_neg (by decide)]
    simp only [gdn (show 0 < 6 by omega) (show 6 < 2 ^ 31 by decide), gdn (show 0 + 1 < 6 by omega) (show 6 < 2 ^ 31 by decide), nI_clamp (show 0 < 2 ^ 31 by omega), hst, nI_1 0, nI_clamp (show 0 + 1 < 2 ^ 31 by omega)]
    rw [if_pos (show nI 0 = (0 : Int32) from rfl), hl, obs]
    simp only [if_pos (show nI 0 = (0 : Int32) from rfl)]
  | succ d =>
    have h1 := ho d (by omega)
    have hl : fMM_search_l58 (nI s) (nI a) (nI goal) (nI (d + 1)) (nI (to (op d))) (nI c) F T o FU (nI j) = some (nI i) := hl
    have hm : mu d = lN A := hmu.2 (by omega)
    have hTo : T (op d) = nI (to (op d)) := (hK.2 (op d) h1.1).2.2.2.2.2.2.2.1
    have hz : ¬ nI (d + 1) = (0 : Int32) := fun z => absurd ((nI_eq (b := 0) (by omega) (by decide)).mp z) (by omega)
    rw [← fin (mu d) hm]
    rw [fMM_search_l17.eq_2, if_neg (nI_pos (by omega)), show nI (d + 1) - 1 = nI d from nI_pred d]
    simp only [gdn hd6 (show 6 < 2 ^ 31 by decide), gdn (show d < 6 by omega) (show 6 < 2 ^ 31 by decide), gdn (show d + 1 + 1 < 6 by omega) (show 6 < 2 ^ 31 by decide), nI_clamp (show d + 1 < 2 ^ 31 by omega), nI_clamp (show d < 2 ^ 31 by omega), hst, nI_1 (d + 1), nI_clamp (show d + 1 + 1 < 2 ^ 31 by omega), h1.2, gdn (show op d < 20 by omega) (show 20 < 2 ^ 31 by decide), nI_clamp (show op d < 2 ^ 31 by omega), hTo]
    rw [if_neg hz, hl, obs]
    simp only [if_neg hz]
/-- one turn of the program's loop -/
theorem xstep {c : Nat} {fr to gv gt : Nat → Nat} {F Gv T Gt : Nat → Int32} (hK : MK c fr to gv gt F Gv T Gt) {d A cu : Nat} (hd : d ≤ 4) (hcu : cu < 6) (hA : A < 2 ^ 50) {i : Nat} (hi : i < c) (rec : Int32 → Int64 → Int32 → (Nat → Int32) → (Nat → Int32) → (Nat → Int32) → (Nat → Int32) → Int32 → (Nat → Int32) → (Nat → Int32) → (Nat → Int32) → Int32 → Int64 → Int32 → Option ((Nat → Int32) × (Nat → Int32) × (Nat → Int32) × Int32 × Int64)) (goal : Int32) (n : Nat) (vis tr fo : Nat → Int32) (fl : Int32) (fa : Int64) :
    fMa_search_l26 rec (nI cu) (lN A) (nI d) F Gv T Gt (nI c) goal (n + 1) (nI i) vis tr fo fl fa = if fr i = cu ∧ vis (to i) = 0 then ob (rec (nI (to i)) (lN (A / gv i * gt i)) (nI (d + 1)) F Gv T Gt (nI c) (upd vis (to i) 1) (upd tr d (nI i)) fo fl fa goal) (fun e => fMa_search_l26 rec (nI cu) (lN A) (nI d) F Gv T Gt (nI c) goal n (nI (i + 1)) (upd e.1 (to i) 0) e.2.1 e.2.2.1 e.2.2.2.1 e.2.2.2.2) else fMa_search_l26 rec (nI cu) (lN A) (nI d) F Gv T Gt (nI c) goal n (nI (i + 1)) vis tr fo fl fa := by
  have hc := hK.1
  obtain ⟨hf, ht, g1, g2, g3, g4, hF, hT, hGv, hGt⟩ := hK.2 i (by omega)
  have hmax : (if (1 : Int32) < nI (gv i) then nI (gv i) else 1) = nI (gv i) := by
    by_cases q : 1 < gv i
    · rw [if_pos (show (1 : Int32) < nI (gv i) from (nI_ltI (a := 1) (b := (gv i)) (by omega) (by omega)).mpr (by omega))]
    · rw [if_neg (fun qq : (1 : Int32) < nI (gv i) => absurd ((nI_ltI (a := 1) (b := (gv i)) (by omega) (by omega)).mp qq) (by omega)), show gv i = 1 by omega]; rfl
  rw [fMa_search_l26.eq_2, if_neg (fun qq : nI (c) ≤ nI (i) => absurd ((nI_leI (a := (c)) (b := (i)) (by omega) (by omega)).mp qq) (by omega))]
  unfold fMa_exchanged
  simp only [gdn (show i < 20 by omega) (show 20 < 2 ^ 31 by decide), nI_clamp (show i < 2 ^ 31 by omega), hF, hT, hGv, hGt, gdn ht (show 6 < 2 ^ 31 by decide), nI_clamp (show to i < 2 ^ 31 by omega), gdn (show d < 5 by omega) (show 5 < 2 ^ 31 by decide), nI_clamp (show d < 2 ^ 31 by omega), hmax, gd_true (nzL_n g1 g2), amt hA g1 g2 g4, obs, nI_1 d, nI_1 i]
  by_cases e1 : fr i = cu
  · rw [if_pos (by rw [e1])]
    by_cases e2 : vis (to i) = 0
    · rw [if_pos e2, if_pos ⟨e1, e2⟩]
    · rw [if_neg e2, if_neg (fun z => e2 z.2)]
  · rw [if_neg (fun z => e1 ((nI_eq (by omega) (by omega)).mp z)), if_neg (fun z => e1 z.1)]
/-- the best row comes ahead of all that is still to be tried -/
def LX (b : Nat → Nat) (L d : Nat) (op : Nat → Nat) (i : Nat) : Prop := (∃ j, j < d ∧ j < L ∧ (∀ k, k < j → b k = op k) ∧ b j < op j) ∨ (d < L ∧ (∀ k, k < d → b k = op k) ∧ b d < i)
def RBB (d : Nat) (op : Nat → Nat) (i : Nat) (fo : Nat → Int32) (fl : Int32) (fa : Int64) (br : Nat → Int32) (bl : Int32) : Prop :=
  fa = -1 ∨ ∃ (L : Nat) (b : Nat → Nat) (N : Nat), fa = lN N ∧ N < 2 ^ 60 ∧ L ≤ 5 ∧ fl = nI L ∧ bl = nI L ∧ (∀ k, k < L → fo k = nI (b k) ∧ br k = nI (b k) ∧ b k < 20) ∧ LX b L d op i
theorem RBB_mono {d : Nat} {op : Nat → Nat} {i i' : Nat} {fo : Nat → Int32} {fl : Int32} {fa : Int64} {br : Nat → Int32} {bl : Int32} (h : RBB d op i fo fl fa br bl) (hi : i ≤ i') : RBB d op i' fo fl fa br bl := by
  rcases h with h | ⟨L, b, N, h1, h2, h3, h4, h5, h6, h7⟩
  · exact Or.inl h
  · refine Or.inr ⟨L, b, N, h1, h2, h3, h4, h5, h6, ?_⟩
    rcases h7 with h7 | ⟨a1, a2, a3⟩
    · exact Or.inl h7
    · exact Or.inr ⟨a1, a2, by omega⟩
theorem keep_pair {d i N : Nat} {op : Nat → Nat} {fo : Nat → Int32} {fl : Int32} {fa : Int64} {br : Nat → Int32} {bl : Int32} (h : RBB d op i fo fl fa br bl) (hd : d ≤ 4) (hi : i < 20) (hop : ∀ k, k < d → op k < 20) (hN : N < 2 ^ 60) {tr o : Nat → Int32} {mu : Nat → Int64} (htr : ∀ k, k < d → tr k = nI (op k) ∧ o k = nI (op k)) (htd : tr d = nI i ∧ o d = nI i) (hmu : mu d = lN N) :
    ∃ (fo' : Nat → Int32) (fl' : Int32) (fa' : Int64) (br' : Nat → Int32) (bl' : Int32), fMa_keepIfBetter (lN N) (nI (d + 1)) tr fo fl fa = some (fo', fl', fa') ∧ fMM_found (nI (d + 1)) o mu br bl fa = some (br', bl', fa') ∧ RBB d op (i + 1) fo' fl' fa' br' bl' := by
  have hcp : cpb 5 5 0 0 (nI (d + 1)) = true := by
    unfold cpb
    rw [nI_clamp (by omega)]
    simp only [Bool.and_eq_true, Bool.not_eq_true', decide_eq_false_iff_not, decide_eq_true_eq]
    exact ⟨⟨⟨⟨by decide, by decide⟩, nI_pos (by omega)⟩, by show 0 + (d + 1) ≤ 5; omega⟩, by show 0 + (d + 1) ≤ 5; omega⟩
  have hall : ∀ k, k < d + 1 → tr k = nI (if k = d then i else op k) ∧ o k = nI (if k = d then i else op k) ∧ (if k = d then i else op k) < 20 := by
    intro k hk
    by_cases e : k = d
    · subst e; rw [if_pos rfl]; exact ⟨htd.1, htd.2, hi⟩
    · rw [if_neg e]; exact ⟨(htr k (by omega)).1, (htr k (by omega)).2, hop k (by omega)⟩
  -- the copies
  have hX : ∀ k, k < d + 1 → cpyI tr fo 0 0 (nI (d + 1)) k = nI (if k = d then i else op k) := by
    intro k hk
    unfold cpyI
    rw [nI_clamp (by omega)]
    show va_cpy tr fo 0 0 (d + 1) k = _
    rw [pk_cpy_in (Nat.zero_le _) (by omega), Nat.zero_add, Nat.sub_zero]
    exact (hall k hk).1
  have hM : ∃ br', fMM_found_l65 (nI (d + 1)) o FU 0 br = some br' ∧ ∀ k, k < d + 1 → br' k = nI (if k = d then i else op k) := by
    have key : ∀ (q k n : Nat) (br : Nat → Int32), k + q = d + 1 → q < n → (∀ j, j < k → br j = nI (if j = d then i else op j)) → ∃ br', fMM_found_l65 (nI (d + 1)) o n (nI k) br = some br' ∧ ∀ k, k < d + 1 → br' k = nI (if k = d then i else op k) := by
      intro q
      induction q with
      | zero =>
        intro k n br hk hn hI
        obtain ⟨n, rfl⟩ : ∃ k, n = k + 1 := ⟨n - 1, by omega⟩
        have hk : k = d + 1 := by omega
        subst hk
        exact ⟨br, by rw [fMM_found_l65.eq_2, if_pos (Int32.le_refl _)], hI⟩
      | succ q ih =>
        intro k n br hk hn hI
        obtain ⟨n, rfl⟩ : ∃ k, n = k + 1 := ⟨n - 1, by omega⟩
        rw [fMM_found_l65.eq_2, if_neg (fun qq : nI (d + 1) ≤ nI (k) => absurd ((nI_leI (a := (d + 1)) (b := (k)) (by omega) (by omega)).mp qq) (by omega)), gdn (by omega) (by decide), gdn (by omega) (by decide), nI_clamp (by omega), nI_1 k]
        refine ih (k + 1) n _ (by omega) (by omega) (fun j hj => ?_)
        by_cases e : j = k
        · subst e; rw [upd_s]; exact (hall j (by omega)).2.1
        · rw [upd_n e]; exact hI j (by omega)
    exact key (d + 1) 0 FU br (by omega) (FU_gt (by omega)) (fun j hj => absurd hj (Nat.not_lt_zero _))
  obtain ⟨br', m1, m2⟩ := hM
  have hnew : RBB d op (i + 1) (cpyI tr fo 0 0 (nI (d + 1))) (nI (d + 1)) (lN N) br' (nI (d + 1)) := by
    refine Or.inr ⟨d + 1, fun k => if k = d then i else op k, N, rfl, hN, by omega, rfl, rfl, fun k hk => ⟨hX k hk, m2 k hk, (hall k hk).2.2⟩, Or.inr ⟨by omega, fun k hk => if_neg (by omega), ?_⟩⟩
    show (if d = d then i else op d) < i + 1
    rw [if_pos rfl]; omega
  unfold fMa_keepIfBetter fMM_found
  rw [show nI (d + 1) - 1 = nI d from nI_pred d, gdn (by omega) (by decide), nI_clamp (n := d) (by omega), hmu, m1]
  rcases h with rfl | ⟨L, b, N0, rfl, h2, h3, rfl, rfl, h6, h7⟩
  · have hgt : (-1 : Int64) < lN N := by
      rw [Int64.lt_iff_toInt_lt, pk_lT (by omega)]
      have : (-1 : Int64).toInt = -1 := by decide
      omega
    have hne : ¬ lN N = (-1 : Int64) := fun z => by rw [z] at hgt; exact absurd hgt (by decide)
    rw [if_pos ((lg_cmp_gt _ _).mpr hgt), gd_true hcp, if_neg (fun z => by
      have := (lg_cmp_lt _ _).mp z
      exact absurd this (Int64.not_lt.mpr (Int64.le_of_lt hgt))), if_neg (fun z => hne ((lg_cmp_eq _ _).mp z)), obs]
    exact ⟨_, _, _, _, _, rfl, rfl, hnew⟩
  · by_cases c1 : N0 < N
    · rw [if_pos ((lg_cmp_gt _ _).mpr ((pk_lLT (by omega) (by omega)).mpr c1)), gd_true hcp, if_neg (fun z => absurd ((pk_lLT (by omega) (by omega)).mp ((lg_cmp_lt _ _).mp z)) (by omega)), if_neg (fun z => absurd ((pk_lEQ (by omega) (by omega)).mp ((lg_cmp_eq _ _).mp z)) (by omega)), obs]
      exact ⟨_, _, _, _, _, rfl, rfl, hnew⟩
    · rw [if_neg (fun z => c1 ((pk_lLT (by omega) (by omega)).mp ((lg_cmp_gt _ _).mp z)))]
      have hold : RBB d op (i + 1) fo (nI L) (lN N0) br (nI L) := RBB_mono (Or.inr ⟨L, b, N0, rfl, h2, h3, rfl, rfl, h6, h7⟩) (by omega)
      by_cases c2 : N = N0
      · rw [if_pos ((lg_cmp_eq _ _).mpr (by rw [c2])), if_neg (fun z => absurd ((pk_lLT (by omega) (by omega)).mp ((lg_cmp_lt _ _).mp z)) (by omega)), if_pos ((lg_cmp_eq _ _).mpr (by rw [c2]))]
        by_cases c3 : L ≤ d + 1
        · rw [if_pos (show nI (L) ≤ nI (d + 1) from (nI_leI (a := (L)) (b := (d + 1)) (by omega) (by omega)).mpr (by omega))]
          by_cases c4 : L < d + 1
          · rw [if_pos (show nI (L) < nI (d + 1) from (nI_ltI (a := (L)) (b := (d + 1)) (by omega) (by omega)).mpr (by omega))]
            exact ⟨_, _, _, _, _, rfl, rfl, hold⟩
          · have hL : L = d + 1 := by omega
            rw [if_neg (fun qq : nI (L) < nI (d + 1) => absurd ((nI_ltI (a := (L)) (b := (d + 1)) (by omega) (by omega)).mp qq) (by omega)), if_pos (by rw [hL])]
            have hah : fMM_isAhead (nI (d + 1)) o br = some 0 := by
              -- where they part
              have hw : ∃ j, j < d + 1 ∧ (∀ k, k < j → b k = (if k = d then i else op k)) ∧ b j < (if j = d then i else op j) := by
                rcases h7 with ⟨j, j1, j2, j3, j4⟩ | ⟨j1, j2, j3⟩
                · refine ⟨j, by omega, fun k hk => ?_, ?_⟩
                  · rw [if_neg (by omega)]; exact j3 k hk
                  · rw [if_neg (by omega)]; exact j4
                · refine ⟨d, by omega, fun k hk => ?_, ?_⟩
                  · rw [if_neg (by omega)]; exact j2 k hk
                  · rw [if_pos rfl]; exact j3
              obtain ⟨j, j1, j2, j3⟩ := hw
              have key : ∀ (q k n : Nat), k + q = j → q < n → fMM_isAhead_l2 (nI (d + 1)) o br n (nI k) = some (Sum.inl (nI j)) := by
                intro q
                induction q with
                | zero =>
                  intro k n hk hn
                  obtain ⟨n, rfl⟩ : ∃ k, n = k + 1 := ⟨n - 1, by omega⟩
                  have hk : k = j := by omega
                  subst hk
                  rw [fMM_isAhead_l2.eq_2, if_neg (fun qq : nI (d + 1) ≤ nI (k) => absurd ((nI_leI (a := (d + 1)) (b := (k)) (by omega) (by omega)).mp qq) (by omega)), gdn (by omega) (by decide), gdn (by omega) (by decide), nI_clamp (by omega), (hall k j1).2.1, (h6 k (by omega)).2.1]
                  have b1 := (hall k j1).2.2
                  have b2 := (h6 k (by omega)).2.2
                  rw [if_neg (fun z => absurd ((nI_eq (by omega) (by omega)).mp z) (by omega))]
                | succ q ih =>
                  intro k n hk hn
                  obtain ⟨n, rfl⟩ : ∃ k, n = k + 1 := ⟨n - 1, by omega⟩
                  rw [fMM_isAhead_l2.eq_2, if_neg (fun qq : nI (d + 1) ≤ nI (k) => absurd ((nI_leI (a := (d + 1)) (b := (k)) (by omega) (by omega)).mp qq) (by omega)), gdn (by omega) (by decide), gdn (by omega) (by decide), nI_clamp (by omega), (hall k (by omega)).2.1, (h6 k (by omega)).2.1, j2 k (by omega), if_pos rfl, nI_1 k]
                  exact ih (k + 1) n (by omega) (by omega)
              have hk := key j 0 FU (by omega) (FU_gt (by omega))
              have hk : fMM_isAhead_l2 (nI (d + 1)) o br FU 0 = some (Sum.inl (nI j)) := hk
              have b1 := (hall j j1).2.2
              have b2 := (h6 j (by omega)).2.2
              unfold fMM_isAhead
              rw [hk, obs]
              show gd (inb (nI j) 6) _ = _
              rw [gdn (by omega) (by decide), gdn (by omega) (by decide), nI_clamp (by omega), (hall j j1).2.1, (h6 j (by omega)).2.1, if_pos ((nI_leI (by omega) (by omega)).mpr (by omega))]
            rw [hah, obs, if_pos rfl]
            exact ⟨_, _, _, _, _, rfl, rfl, hold⟩
        · rw [if_neg (fun qq : nI (L) ≤ nI (d + 1) => absurd ((nI_leI (a := (L)) (b := (d + 1)) (by omega) (by omega)).mp qq) (by omega)), gd_true hcp, if_neg (fun qq : nI (L) < nI (d + 1) => absurd ((nI_ltI (a := (L)) (b := (d + 1)) (by omega) (by omega)).mp qq) (by omega)), if_neg (fun z => absurd ((nI_eq (by omega) (by omega)).mp z) (by omega)), obs]
          exact ⟨_, _, _, _, _, rfl, rfl, hnew⟩
      · rw [if_neg (fun z => c2 ((pk_lEQ (by omega) (by omega)).mp ((lg_cmp_eq _ _).mp z))), if_pos ((lg_cmp_lt _ _).mpr ((pk_lLT (by omega) (by omega)).mpr (by omega)))]
        exact ⟨_, _, _, _, _, rfl, rfl, hold⟩
