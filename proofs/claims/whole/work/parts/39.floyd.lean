/-! the reference's ways -/
def Rnd (c : Nat) (E : Nat → Nat → Nat) : Nat → Nat → Nat := fun i j => min (E i j) (E i c + E c j)
theorem fwround_n {c : Nat} (hc : c < 16) {E : Nat → Nat → Nat} (hE : ∀ i j, i < 16 → j < 16 → E i j ≤ 100000) {v : Nat → Int32} (hv : ∀ k, k < 256 → v k = nI (E (k / 16) (k % 16))) {a1 a2 : Int32} : ∃ v', fMM_wayOf_l67 a1 a2 (nI c) FU 0 v = some v' ∧ ∀ k, k < 256 → v' k = nI (Rnd c E (k / 16) (k % 16)) := by
  have key : ∀ (d k n : Nat) (v : Nat → Int32), k + d = 256 → d < n → (∀ j, j < 256 → v j = nI (if j < k then Rnd c E (j / 16) (j % 16) else E (j / 16) (j % 16))) → ∃ v', fMM_wayOf_l67 a1 a2 (nI c) n (nI k) v = some v' ∧ ∀ k, k < 256 → v' k = nI (Rnd c E (k / 16) (k % 16)) := by
    intro d
    induction d with
    | zero =>
      intro k n v hk hn hI
      obtain ⟨n, rfl⟩ : ∃ k, n = k + 1 := ⟨n - 1, by omega⟩
      have hk : k = 256 := by omega
      subst hk
      exact ⟨v, by rw [fMM_wayOf_l67.eq_2, if_pos (show (256 : Int32) ≤ nI (256) from (nI_leI (a := 256) (b := (256)) (by omega) (by omega)).mpr (by omega))], fun j hj => by rw [hI j hj, if_pos hj]⟩
    | succ d ih =>
      intro k n v hk hn hI
      obtain ⟨n, rfl⟩ : ∃ k, n = k + 1 := ⟨n - 1, by omega⟩
      have hk2 : k < 256 := by omega
      have hq : k / 16 < 16 := by omega
      have hr : k % 16 < 16 := by omega
      have v1 : v (k / 16 * 16 + c) = nI (E (k / 16) c) := by
        rw [hI _ (by omega), show (k / 16 * 16 + c) / 16 = k / 16 by omega, show (k / 16 * 16 + c) % 16 = c by omega]
        split
        · congr 1; show min (E (k / 16) c) (E (k / 16) c + E c c) = _; omega
        · rfl
      have v2 : v (c * 16 + k % 16) = nI (E c (k % 16)) := by
        rw [hI _ (by omega), show (c * 16 + k % 16) / 16 = c by omega, show (c * 16 + k % 16) % 16 = k % 16 by omega]
        split
        · congr 1; show min (E c (k % 16)) (E c c + E c (k % 16)) = _; omega
        · rfl
      have v3 : v k = nI (E (k / 16) (k % 16)) := by rw [hI k hk2, if_neg (by omega)]
      have b1 := hE (k / 16) c hq hc
      have b2 := hE c (k % 16) hc hr
      have b3 := hE (k / 16) (k % 16) hq hr
      have e0 : nI k / 16 = nI (k / 16) := pk_div (d := 16) (by omega) (by decide) (by decide)
      have e1 : nI (k / 16) * 16 = nI (k / 16 * 16) := pk_mul _ 16
      have e2 : nI k - nI (k / 16 * 16) = nI (k % 16) := by rw [pk_sub (by omega)]; congr 1; omega
      have e3 : (16 : Int32) * nI c + nI (k % 16) = nI (c * 16 + k % 16) := ix_ml c (k % 16) 16
      rw [fMM_wayOf_l67.eq_2, if_neg (fun qq : (256 : Int32) ≤ nI (k) => absurd ((nI_leI (a := 256) (b := (k)) (by omega) (by omega)).mp qq) (by omega)), e0, e1, e2, e3, nI_add, nI_1 k]
      simp only [gdn (show k / 16 * 16 + c < 256 by omega) (show 256 < 2 ^ 31 by decide), gdn (show c * 16 + k % 16 < 256 by omega) (show 256 < 2 ^ 31 by decide), gdn hk2 (show 256 < 2 ^ 31 by decide), nI_clamp (show k / 16 * 16 + c < 2 ^ 31 by omega), nI_clamp (show c * 16 + k % 16 < 2 ^ 31 by omega), nI_clamp (show k < 2 ^ 31 by omega), v1, v2, v3, nI_add]
      by_cases q : E (k / 16) (k % 16) ≤ E (k / 16) c + E c (k % 16)
      · rw [if_pos (show nI (E (k / 16) (k % 16)) ≤ nI (E (k / 16) c + E c (k % 16)) from (nI_leI (a := (E (k / 16) (k % 16))) (b := (E (k / 16) c + E c (k % 16))) (by omega) (by omega)).mpr (by omega))]
        refine ih (k + 1) n v (by omega) (by omega) (fun j hj => ?_)
        rw [hI j hj]
        by_cases z : j = k
        · subst z
          rw [if_neg (by omega), if_pos (by omega), show Rnd c E (j / 16) (j % 16) = E (j / 16) (j % 16) from Nat.min_eq_left q]
        · by_cases z2 : j < k
          · rw [if_pos z2, if_pos (by omega)]
          · rw [if_neg z2, if_neg (by omega)]
      · rw [if_neg (fun qq : nI (E (k / 16) (k % 16)) ≤ nI (E (k / 16) c + E c (k % 16)) => absurd ((nI_leI (a := (E (k / 16) (k % 16))) (b := (E (k / 16) c + E c (k % 16))) (by omega) (by omega)).mp qq) (by omega))]
        refine ih (k + 1) n _ (by omega) (by omega) (fun j hj => ?_)
        by_cases z : j = k
        · subst z
          rw [upd_s, if_pos (by omega), show Rnd c E (j / 16) (j % 16) = E (j / 16) c + E c (j % 16) from Nat.min_eq_right (by omega)]
        · rw [upd_n z, hI j hj]
          by_cases z2 : j < k
          · rw [if_pos z2, if_pos (by omega)]
          · rw [if_neg z2, if_neg (by omega)]
  exact key 256 0 FU v rfl (FU_gt (by decide)) (fun j hj => by rw [if_neg (Nat.not_lt_zero _)]; exact hv j hj)
/-- what holds of the ways when the places below m have been gone through -/
def FI (W : Nat → Nat → Nat) (m : Nat) (E : Nat → Nat → Nat) : Prop :=
  (∀ i j, i < 16 → j < 16 → E i j ≤ 100000) ∧ (∀ i, i < 16 → E i i = 0) ∧ (∀ i j, i < 16 → j < 16 → W i j ≠ 0 → E i j ≤ W i j) ∧ (∀ c i j, c < m → i < 16 → j < 16 → E i j ≤ E i c + E c j) ∧ (∀ i j, i < 16 → j < 16 → j ≠ i → E i j < 100000 → ∃ k, k < 16 ∧ W k j ≠ 0 ∧ E i k + W k j ≤ E i j)
theorem FI_step {W : Nat → Nat → Nat} {m : Nat} {E : Nat → Nat → Nat} (h : FI W m E) (hm : m < 16) : FI W (m + 1) (Rnd m E) := by
  obtain ⟨h1, h2, h3, h4, h5⟩ := h
  have hmm := h2 m hm
  refine ⟨fun i j hi hj => ?_, fun i hi => ?_, fun i j hi hj hw => ?_, fun c i j hc hi hj => ?_, fun i j hi hj hne hlt => ?_⟩
  · have := h1 i j hi hj
    show min _ _ ≤ _
    omega
  · have := h2 i hi
    show min _ _ = 0
    omega
  · have := h3 i j hi hj hw
    show min _ _ ≤ _
    omega
  · show min (E i j) (E i m + E m j) ≤ min (E i c) (E i m + E m c) + min (E c j) (E c m + E m j)
    by_cases e : c = m
    · subst e
      omega
    · have a1 := h4 c i j (by omega) hi hj
      have a2 := h4 c m j (by omega) hm hj
      have a3 := h4 c i m (by omega) hi hm
      omega
  · by_cases c : E i j ≤ E i m + E m j
    · have e : Rnd m E i j = E i j := Nat.min_eq_left c
      rw [e] at hlt ⊢
      obtain ⟨k, hk, hw, hle⟩ := h5 i j hi hj hne hlt
      refine ⟨k, hk, hw, ?_⟩
      have : Rnd m E i k ≤ E i k := Nat.min_le_left _ _
      omega
    · have e : Rnd m E i j = E i m + E m j := Nat.min_eq_right (by omega)
      rw [e] at hlt ⊢
      have hjm : j ≠ m := fun z => c (by rw [z, hmm]; omega)
      obtain ⟨k, hk, hw, hle⟩ := h5 m j hm hj hjm (by omega)
      refine ⟨k, hk, hw, ?_⟩
      have : Rnd m E i k ≤ E i m + E m k := Nat.min_le_right _ _
      omega
def E0 (W : Nat → Nat → Nat) : Nat → Nat → Nat := fun i j => if i = j then 0 else if W i j = 0 then 100000 else W i j
theorem FI_0 {W : Nat → Nat → Nat} (hW : ∀ k j, k < 16 → j < 16 → W k j ≤ 30) : FI W 0 (E0 W) := by
  refine ⟨fun i j hi hj => ?_, fun i hi => if_pos rfl, fun i j hi hj hw => ?_, fun c i j hc => absurd hc (Nat.not_lt_zero _), fun i j hi hj hne hlt => ?_⟩
  · have := hW i j hi hj
    unfold E0
    repeat' split
    all_goals omega
  · unfold E0
    rw [if_neg (show ¬ W i j = 0 from hw)]
    split <;> omega
  · unfold E0 at hlt ⊢
    rw [if_neg (fun z => hne z.symm)] at hlt ⊢
    by_cases q : W i j = 0
    · rw [if_pos q] at hlt; omega
    · rw [if_neg q]
      refine ⟨i, hi, q, ?_⟩
      rw [if_pos rfl]; omega
theorem winit_n {w : Nat → Nat} {f : Nat → Int32} (hf : ∀ k, k < 256 → w k ≤ 30 ∧ f k = nI (w k)) (v0 : Nat → Int32) {a1 a2 : Int32} : ∃ v, fMM_wayOf_l2 a1 a2 f FU 0 v0 = some v ∧ ∀ k, k < 256 → v k = nI (E0 (fun i j => w (i * 16 + j)) (k / 16) (k % 16)) := by
  have key : ∀ (d k n : Nat) (v : Nat → Int32), k + d = 256 → d < n → (∀ j, j < k → v j = nI (E0 (fun i j => w (i * 16 + j)) (j / 16) (j % 16))) → ∃ v', fMM_wayOf_l2 a1 a2 f n (nI k) v = some v' ∧ ∀ k, k < 256 → v' k = nI (E0 (fun i j => w (i * 16 + j)) (k / 16) (k % 16)) := by
    intro d
    induction d with
    | zero =>
      intro k n v hk hn hI
      obtain ⟨n, rfl⟩ : ∃ k, n = k + 1 := ⟨n - 1, by omega⟩
      have hk : k = 256 := by omega
      subst hk
      exact ⟨v, by rw [fMM_wayOf_l2.eq_2, if_pos (show (256 : Int32) ≤ nI (256) from (nI_leI (a := 256) (b := (256)) (by omega) (by omega)).mpr (by omega))], hI⟩
    | succ d ih =>
      intro k n v hk hn hI
      obtain ⟨n, rfl⟩ : ∃ k, n = k + 1 := ⟨n - 1, by omega⟩
      have hk2 : k < 256 := by omega
      obtain ⟨hw, hfk⟩ := hf k hk2
      have ext : ∀ x : Int32, x = nI (E0 (fun i j => w (i * 16 + j)) (k / 16) (k % 16)) → ∀ j, j < k + 1 → upd v k x j = nI (E0 (fun i j => w (i * 16 + j)) (j / 16) (j % 16)) := by
        intro x hx j hj
        by_cases z : j = k
        · subst z; rw [upd_s, hx]
        · rw [upd_n z]; exact hI j (by omega)
      have e0 : nI k / 16 = nI (k / 16) := pk_div (d := 16) (by omega) (by decide) (by decide)
      have e1 : nI (k / 16) * 16 = nI (k / 16 * 16) := pk_mul _ 16
      have e2 : nI k - nI (k / 16 * 16) = nI (k % 16) := by rw [pk_sub (by omega)]; congr 1; omega
      rw [fMM_wayOf_l2.eq_2, if_neg (fun qq : (256 : Int32) ≤ nI (k) => absurd ((nI_leI (a := 256) (b := (k)) (by omega) (by omega)).mp qq) (by omega)), e0, e1, e2, nI_1 k]
      simp only [gdn hk2 (show 256 < 2 ^ 31 by decide), nI_clamp (show k < 2 ^ 31 by omega), hfk]
      by_cases q : k / 16 = k % 16
      · rw [if_pos (show nI (k / 16) = nI (k % 16) by rw [q])]
        exact ih (k + 1) n _ (by omega) (by omega) (ext 0 (by rw [show E0 (fun i j => w (i * 16 + j)) (k / 16) (k % 16) = 0 from if_pos q]; rfl))
      · rw [if_neg (fun z => q ((nI_eq (by omega) (by omega)).mp z))]
        have hkk : k / 16 * 16 + k % 16 = k := by omega
        have hwk : (fun i j => w (i * 16 + j)) (k / 16) (k % 16) = w k := congrArg w hkk
        by_cases q2 : w k = 0
        · rw [if_pos (show nI (w k) = (0 : Int32) from (nI_eq (a := (w k)) (b := 0) (by omega) (by omega)).mpr (by omega))]
          refine ih (k + 1) n _ (by omega) (by omega) (ext 100000 ?_)
          unfold E0
          rw [if_neg q, hwk, if_pos q2]; rfl
        · rw [if_neg (fun qq : nI (w k) = (0 : Int32) => absurd ((nI_eq (a := (w k)) (b := 0) (by omega) (by omega)).mp qq) (by omega))]
          refine ih (k + 1) n _ (by omega) (by omega) (ext _ ?_)
          unfold E0
          rw [if_neg q, hwk, if_neg q2]
  exact key 256 0 FU v0 rfl (FU_gt (by decide)) (fun j hj => absurd hj (Nat.not_lt_zero _))
def RnF (W : Nat → Nat → Nat) : Nat → Nat → Nat → Nat
  | 0 => E0 W
  | m + 1 => Rnd m (RnF W m)
theorem wayOf_n {w : Nat → Nat} {f : Nat → Int32} (hf : ∀ k, k < 256 → w k ≤ 30 ∧ f k = nI (w k)) (v0 : Nat → Int32) : ∃ E : Nat → Nat → Nat, FI (fun i j => w (i * 16 + j)) 16 E ∧ ∀ a b, a < 16 → b < 16 → ∃ v, fMM_wayOf (nI a) (nI b) f v0 = some (if E a b < 100000 then nI (E a b) else -1, v) := by
  have hW : ∀ k j, k < 16 → j < 16 → (fun i j => w (i * 16 + j)) k j ≤ 30 := fun k j hk hj => (hf (k * 16 + j) (by omega)).1
  have hRn : ∀ m, m ≤ 16 → FI (fun i j => w (i * 16 + j)) m (RnF (fun i j => w (i * 16 + j)) m) := by
    intro m
    induction m with
    | zero => intro _; exact FI_0 hW
    | succ m ih => intro h; exact FI_step (ih (by omega)) (by omega)
  refine ⟨RnF (fun i j => w (i * 16 + j)) 16, hRn 16 (Nat.le_refl _), fun a b ha hb => ?_⟩
  have key : ∀ (d c n : Nat) (v : Nat → Int32), c + d = 16 → d < n → (∀ k, k < 256 → v k = nI (RnF (fun i j => w (i * 16 + j)) c (k / 16) (k % 16))) → ∃ v', fMM_wayOf_l58 (nI a) (nI b) n (nI c) v = some v' ∧ ∀ k, k < 256 → v' k = nI (RnF (fun i j => w (i * 16 + j)) 16 (k / 16) (k % 16)) := by
    intro d
    induction d with
    | zero =>
      intro c n v hc hn hI
      obtain ⟨n, rfl⟩ : ∃ k, n = k + 1 := ⟨n - 1, by omega⟩
      have hc : c = 16 := by omega
      subst hc
      exact ⟨v, by rw [fMM_wayOf_l58.eq_2, if_pos (show (16 : Int32) ≤ nI (16) from (nI_leI (a := 16) (b := (16)) (by omega) (by omega)).mpr (by omega))], hI⟩
    | succ d ih =>
      intro c n v hc hn hI
      obtain ⟨n, rfl⟩ : ∃ k, n = k + 1 := ⟨n - 1, by omega⟩
      obtain ⟨v', h1, h2⟩ := fwround_n (c := c) (by omega) (hRn c (by omega)).1 hI (a1 := nI a) (a2 := nI b)
      rw [fMM_wayOf_l58.eq_2, if_neg (fun qq : (16 : Int32) ≤ nI (c) => absurd ((nI_leI (a := 16) (b := (c)) (by omega) (by omega)).mp qq) (by omega)), h1, obs, nI_1 c]
      exact ih (c + 1) n v' (by omega) (by omega) h2
  obtain ⟨v1, h1, h2⟩ := winit_n hf v0 (a1 := nI a) (a2 := nI b)
  obtain ⟨v2, h3, h4⟩ := key 16 0 FU v1 rfl (FU_gt (by decide)) h2
  have h3 : fMM_wayOf_l58 (nI a) (nI b) FU 0 v1 = some v2 := h3
  have hv := h4 (a * 16 + b) (by omega)
  rw [show (a * 16 + b) / 16 = a by omega, show (a * 16 + b) % 16 = b by omega] at hv
  have hb2 := (hRn 16 (Nat.le_refl _)).1 a b ha hb
  refine ⟨v2, ?_⟩
  unfold fMM_wayOf
  rw [h1, obs, h3, obs, show (16 : Int32) * nI a + nI b = nI (a * 16 + b) from ix_ml a b 16]
  simp only [gdn (show a * 16 + b < 256 by omega) (show 256 < 2 ^ 31 by decide), nI_clamp (show a * 16 + b < 2 ^ 31 by omega), hv]
  by_cases q : RnF (fun i j => w (i * 16 + j)) 16 a b < 100000
  · rw [if_pos (show nI (RnF (fun i j => w (i * 16 + j)) 16 a b) < (100000 : Int32) from (nI_ltI (a := (RnF (fun i j => w (i * 16 + j)) 16 a b)) (b := 100000) (by omega) (by omega)).mpr (by omega)), if_pos q]
  · rw [if_neg (fun qq : nI (RnF (fun i j => w (i * 16 + j)) 16 a b) < (100000 : Int32) => absurd ((nI_ltI (a := (RnF (fun i j => w (i * 16 + j)) 16 a b)) (b := 100000) (by omega) (by omega)).mp qq) (by omega)), if_neg q]
/-- both searches answer the same -/
theorem way_pair {f g : Nat → Int32} (h : RRo f g) {a b : Nat} (ha : a < 16) (hb : b < 16) (r0 s0 v0 : Nat → Int32) : ∃ x r s v, fRo_leastDays (nI a) (nI b) f r0 s0 = some (x, r, s) ∧ fMM_wayOf (nI a) (nI b) g v0 = some (x, v) ∧ (x = -1 ∨ ∃ k, k < 100000 ∧ x = nI k) := by
  obtain ⟨rfl, hv⟩ := h
  have hw : ∃ w : Nat → Nat, ∀ k, k < 256 → w k ≤ 30 ∧ f k = nI (w k) := by
    refine ⟨fun k => (f k).toNatClampNeg, fun k hk => ?_⟩
    obtain ⟨d, hd, e⟩ := hv k hk
    dsimp only
    rw [e, nI_clamp (by omega)]
    exact ⟨hd, rfl⟩
  obtain ⟨w, hw⟩ := hw
  obtain ⟨E, hE, hM⟩ := wayOf_n hw v0
  obtain ⟨v, hv2⟩ := hM a b ha hb
  obtain ⟨h1, h2, h3, h4, h5⟩ := hE
  obtain ⟨r, s, hX⟩ := least_n hw ha hb (g := fun j => E a j) (h2 a ha) (fun k j hk hj hw1 => by
    have e1 := h4 k a j hk ha hj
    have e2 : E k j ≤ w (k * 16 + j) := h3 k j hk hj hw1
    omega) (fun j hj hne hlt => h5 a j ha hj hne hlt) (h1 a b ha hb) r0 s0
  refine ⟨_, r, s, v, hX, hv2, ?_⟩
  by_cases q : E a b < 100000
  · rw [if_pos q]; exact Or.inr ⟨_, q, rfl⟩
  · rw [if_neg q]; exact Or.inl rfl
theorem op_way {f g : Nat → Int32} (h : RRo f g) (r0 s0 v0 : Nat → Int32) (a1 a2 : Int32) : ∃ x r s v, fTL_way a1 a2 f r0 s0 = some (x, r, s) ∧ fMM_way a1 a2 g v0 = some (x, v) := by
  unfold fTL_way fMM_way
  rcases place_or a1 with ⟨m1, t1⟩ | ⟨i, hi, rfl, m1, t1⟩
  · exact ⟨-1, r0, s0, v0, by rw [if_pos t1], by rw [if_pos m1]⟩
  rw [if_neg t1, if_neg m1]
  rcases place_or a2 with ⟨m2, t2⟩ | ⟨j, hj, rfl, m2, t2⟩
  · exact ⟨-1, r0, s0, v0, by rw [if_pos t2], by rw [if_pos m2]⟩
  rw [if_neg t2, if_neg m2]
  obtain ⟨x, r, s, v, h1, h2, -⟩ := way_pair h hi hj r0 s0 v0
  rw [h1, h2]
  exact ⟨x, r, s, v, rfl, rfl⟩
/-- a sending -/
theorem op_send {c m k : Nat} {f g : Nat → Int32} (hR : RRo f g) {pw qw : Nat → Int32} {l l' : Int32} (hP : RPo pw qw l l') {T ord : Nat → Int32} {scnt spcs cnt sendings : Int32} {town good pieces bearers left comes isSt used : Nat → Int32} {stored : Int32} {sord : Nat → Int32} {smany : Int32} (hS : RSe c m T ord scnt spcs cnt sendings town good pieces bearers left comes isSt used stored sord smany) (r0 s0 v0 : Nat → Int32) (a1 a2 a3 : Int32) :
    ∃ (x : Int32) (r s v : Nat → Int32) (c' : Nat) (T' : Nat → Int32) (cnt' sendings' : Int32) (town' good' pieces' bearers' left' comes' : Nat → Int32), fTL_send a1 a2 a3 (nI k) f r0 s0 pw l T cnt = some (x, r, s, T', cnt') ∧ fMM_send a1 a2 a3 (nI k) g v0 qw l' sendings town good pieces bearers left comes = some (x, v, sendings', town', good', pieces', bearers', left', comes') ∧ RSe c' m T' ord scnt spcs cnt' sendings' town' good' pieces' bearers' left' comes' isSt used stored sord smany := by
  obtain ⟨tw, gn, pc, od, hc, hm, e1, e2, e3, e4, hr, hv, hzz, ho, hcn, e5, e6⟩ := id hS
  unfold fTL_send fMM_send
  rcases town_or a1 with ⟨m1, t1⟩ | ⟨w, hw1, hw, rfl, m1, t1⟩
  · exact ⟨-1, r0, s0, v0, c, T, cnt, sendings, town, good, pieces, bearers, left, comes, by rw [if_pos t1], by rw [if_pos m1], hS⟩
  rw [if_neg t1, if_neg m1]
  rcases good_or a2 with ⟨m1, t1⟩ | ⟨gg, hg, rfl, m1, t1⟩
  · exact ⟨-1, r0, s0, v0, c, T, cnt, sendings, town, good, pieces, bearers, left, comes, by rw [if_pos t1], by rw [if_pos m1], hS⟩
  rw [if_neg t1, if_neg m1]
  rcases in_or a3 1 9999 1 9999 rfl rfl (by decide) (by decide) with ⟨m3, t3⟩ | ⟨p, hp1, hp, rfl, m3, t3⟩
  · exact ⟨-1, r0, s0, v0, c, T, cnt, sendings, town, good, pieces, bearers, left, comes, by rw [if_pos t3], by rw [if_pos m3], hS⟩
  rw [if_neg t3, if_neg m3]
  unfold fSe_isFull
  by_cases hfull : c = 100
  · rw [e1, e2, if_neg (fun qq : nI (c) < (100 : Int32) => absurd ((nI_ltI (a := (c)) (b := 100) (by omega) (by omega)).mp qq) (by omega)), if_neg n10, if_pos (show nI (c) = (100 : Int32) from (nI_eq (a := (c)) (b := 100) (by omega) (by omega)).mpr (by omega))]
    exact ⟨-1, r0, s0, v0, c, T, nI c, nI c, town, good, pieces, bearers, left, comes, rfl, rfl, by rw [e1, e2] at hS; exact hS⟩
  · have hc2 : c < 100 := by omega
    rw [e1, e2, if_pos (show nI (c) < (100 : Int32) from (nI_ltI (a := (c)) (b := 100) (by omega) (by omega)).mpr (by omega)), if_pos rfl, if_neg (fun qq : nI (c) = (100 : Int32) => absurd ((nI_eq (a := (c)) (b := 100) (by omega) (by omega)).mp qq) (by omega))]
    rw [e1, e2] at hS
    obtain ⟨x, r, s, v, x1, x2, x3⟩ := way_pair hR (a := w) (b := 0) hw (by decide) r0 s0 v0
    have x1 : fRo_leastDays (nI w) 0 f r0 s0 = some (x, r, s) := x1
    have x2 : fMM_wayOf (nI w) 0 g v0 = some (x, v) := x2
    rw [x1, x2, obs, obs]
    dsimp only
    rcases x3 with x3 | ⟨dd, hdd, x3⟩
    · subst x3
      rw [if_pos rfl, if_neg (by decide)]
      exact ⟨-1, r, s, v, c, T, nI c, nI c, town, good, pieces, bearers, left, comes, rfl, rfl, hS⟩
    · subst x3
      obtain ⟨rfl, rfl, hpw, cl, hl1, hl2, hl⟩ := hP
      obtain ⟨wv, hwv1, hwv2, hwv⟩ := hpw gg hg
      rw [if_neg (m1_ne dd (by omega)), if_pos (nI_ge0 (by omega)), needed_n hg hwv hl hwv1 hwv2 hl1 hl2 hp, carriersOf_n hg hwv hl hwv1 hwv2 hl1 hl2 hp, obs, obs]
      unfold fSe_add
      rw [show nI c * 8 + 0 = nI (c * 8 + 0) from ix_mr c 0 8, show nI c * 8 + 1 = nI (c * 8 + 1) from ix_mr c 1 8, show nI c * 8 + 2 = nI (c * 8 + 2) from ix_mr c 2 8, show nI c * 8 + 3 = nI (c * 8 + 3) from ix_mr c 3 8, show nI c * 8 + 4 = nI (c * 8 + 4) from ix_mr c 4 8, show nI c * 8 + 5 = nI (c * 8 + 5) from ix_mr c 5 8, nI_1 c]
      simp only [gdn (show c * 8 + 0 < 800 by omega) (show 800 < 2 ^ 31 by decide), gdn (show c * 8 + 1 < 800 by omega) (show 800 < 2 ^ 31 by decide), gdn (show c * 8 + 2 < 800 by omega) (show 800 < 2 ^ 31 by decide), gdn (show c * 8 + 3 < 800 by omega) (show 800 < 2 ^ 31 by decide), gdn (show c * 8 + 4 < 800 by omega) (show 800 < 2 ^ 31 by decide), gdn (show c * 8 + 5 < 800 by omega) (show 800 < 2 ^ 31 by decide), gdn hc2 (show 100 < 2 ^ 31 by decide), nI_clamp (show c * 8 + 0 < 2 ^ 31 by omega), nI_clamp (show c * 8 + 1 < 2 ^ 31 by omega), nI_clamp (show c * 8 + 2 < 2 ^ 31 by omega), nI_clamp (show c * 8 + 3 < 2 ^ 31 by omega), nI_clamp (show c * 8 + 4 < 2 ^ 31 by omega), nI_clamp (show c * 8 + 5 < 2 ^ 31 by omega), nI_clamp (show c < 2 ^ 31 by omega), obs]
      refine ⟨_, r, s, v, c + 1, _, _, _, _, _, _, _, _, _, rfl, rfl, ?_⟩
      have hcz := hzz c (Nat.le_refl _) hc2
      refine ⟨fun i => if i = c then w else tw i, fun i => if i = c then gg else gn i, fun i => if i = c then p else pc i, od, by omega, by omega, rfl, rfl, e3, e4, fun j hj => ?_, fun j hj => ?_, fun j h1 h2 => hzz j (by omega) h2, fun j hj => ⟨by have := (ho j hj).1; omega, (ho j hj).2⟩, ?_, ?_, ?_⟩
      all_goals (try dsimp only)
      · obtain ⟨q0, q1, q2, q3, q4, q5, q6, q7, q8⟩ := hr j hj
        unfold RRow
        have un : ∀ (z : Nat), upd (upd (upd (upd (upd (upd T (c * 8 + 0) (nI w)) (c * 8 + 1) (nI gg)) (c * 8 + 2) (nI p)) (c * 8 + 3) (nI (carN wv cl p))) (c * 8 + 4) (nI k)) (c * 8 + 5) (nI k + nI dd) z = if z = c * 8 + 5 then nI k + nI dd else if z = c * 8 + 4 then nI k else if z = c * 8 + 3 then nI (carN wv cl p) else if z = c * 8 + 2 then nI p else if z = c * 8 + 1 then nI gg else if z = c * 8 + 0 then nI w else T z := fun z => rfl
        by_cases e : j = c
        · subst e
          refine ⟨(un _).trans ?_, (un _).trans ?_, (un _).trans ?_, (un _).trans ?_, (un _).trans ?_, (un _).trans ?_, (un _).trans ?_, (un _).trans ?_, q8⟩
          · rw [if_neg (by omega), if_neg (by omega), if_neg (by omega), if_neg (by omega), if_neg (by omega), if_pos (by omega), upd_s]
          · rw [if_neg (by omega), if_neg (by omega), if_neg (by omega), if_neg (by omega), if_pos (by omega), upd_s]
          · rw [if_neg (by omega), if_neg (by omega), if_neg (by omega), if_pos (by omega), upd_s]
          · rw [if_neg (by omega), if_neg (by omega), if_pos (by omega), upd_s]
          · rw [if_neg (by omega), if_pos (by omega), upd_s]
          · rw [if_pos (by omega), upd_s]
          · rw [if_neg (by omega), if_neg (by omega), if_neg (by omega), if_neg (by omega), if_neg (by omega), if_neg (by omega)]; exact q6
          · rw [if_neg (by omega), if_neg (by omega), if_neg (by omega), if_neg (by omega), if_neg (by omega), if_neg (by omega)]; exact q7
        · rw [upd_n e, upd_n e, upd_n e, upd_n e, upd_n e, upd_n e]
          refine ⟨(un _).trans ?_, (un _).trans ?_, (un _).trans ?_, (un _).trans ?_, (un _).trans ?_, (un _).trans ?_, (un _).trans ?_, (un _).trans ?_, q8⟩
          · rw [if_neg (by omega), if_neg (by omega), if_neg (by omega), if_neg (by omega), if_neg (by omega), if_neg (by omega)]; exact q0
          · rw [if_neg (by omega), if_neg (by omega), if_neg (by omega), if_neg (by omega), if_neg (by omega), if_neg (by omega)]; exact q1
          · rw [if_neg (by omega), if_neg (by omega), if_neg (by omega), if_neg (by omega), if_neg (by omega), if_neg (by omega)]; exact q2
          · rw [if_neg (by omega), if_neg (by omega), if_neg (by omega), if_neg (by omega), if_neg (by omega), if_neg (by omega)]; exact q3
          · rw [if_neg (by omega), if_neg (by omega), if_neg (by omega), if_neg (by omega), if_neg (by omega), if_neg (by omega)]; exact q4
          · rw [if_neg (by omega), if_neg (by omega), if_neg (by omega), if_neg (by omega), if_neg (by omega), if_neg (by omega)]; exact q5
          · rw [if_neg (by omega), if_neg (by omega), if_neg (by omega), if_neg (by omega), if_neg (by omega), if_neg (by omega)]; exact q6
          · rw [if_neg (by omega), if_neg (by omega), if_neg (by omega), if_neg (by omega), if_neg (by omega), if_neg (by omega)]; exact q7
      · by_cases e : j = c
        · subst e
          rw [if_pos rfl, if_pos rfl, if_pos rfl, upd_s, upd_s, upd_s]
          exact ⟨hw1, hw, hg, hp1, hp, rfl, rfl, rfl⟩
        · rw [if_neg e, if_neg e, if_neg e, upd_n e, upd_n e, upd_n e]
          exact hv j (by omega)
      · show cntv isSt 1 c + _ = m
        rw [hcz, if_neg (by decide), hcn]; rfl
      · rw [e5]; congr 1
        have : ∀ n, n ≤ m → psum pc od n = psum (fun i => if i = c then p else pc i) od n := by
          intro n
          induction n with
          | zero => intro _; rfl
          | succ n ih =>
            intro hn
            show psum pc od n + pc (od n) = psum _ od n + (if od n = c then p else pc (od n))
            rw [ih (by omega), if_neg (by have := (ho n (by omega)).1; omega)]
        exact this m (Nat.le_refl _)
      · rw [e6]; congr 1
        have : ∀ n, n ≤ m → psum pc od n = psum (fun i => if i = c then p else pc i) od n := by
          intro n
          induction n with
          | zero => intro _; rfl
          | succ n ih =>
            intro hn
            show psum pc od n + pc (od n) = psum _ od n + (if od n = c then p else pc (od n))
            rw [ih (by omega), if_neg (by have := (ho n (by omega)).1; omega)]
        exact this m (Nat.le_refl _)
