section DMA
/-! A: numbers, stores -/
theorem pk_us {f : Nat → Int32} {k : Nat} {x : Int32} : upd f k x k = x := if_pos rfl
theorem pk_un {f : Nat → Int32} {k j : Nat} {x : Int32} (h : j ≠ k) : upd f k x j = f j := if_neg h
theorem pk_sub {a b : Nat} (h : b ≤ a) : nI a - nI b = nI (a - b) := by
  obtain ⟨c, rfl⟩ : ∃ c, a = c + b := ⟨a - b, by omega⟩
  rw [← nI_add, Int32.add_sub_cancel, Nat.add_sub_cancel]
theorem pk_m1 (n : Nat) : nI (n + 1) + (-1) = nI n := by
  rw [← nI_1, Int32.add_assoc, show (1 : Int32) + (-1) = 0 from rfl, Int32.add_zero]
theorem pk_mul (a b : Nat) : nI a * nI b = nI (a * b) := (Int32.ofNat_mul a b).symm
theorem pk_ix (x : Int32) {n : Nat} (hn : n < 2 ^ 31) : x < 0 ∨ nI n ≤ x ∨ ∃ j : Nat, j < n ∧ x = nI j := by
  by_cases h : x < 0
  · exact Or.inl h
  · obtain ⟨j, hj, rfl⟩ := nI_of h
    by_cases h2 : j < n
    · exact Or.inr (Or.inr ⟨j, h2, rfl⟩)
    · exact Or.inr (Or.inl (nI_le (by omega) hj))
theorem pk_le {x y : Int32} {A B : Prop} (a b : Nat) (f : a ≤ b → A) (g : b < a → B) (hx : x = nI a := by rfl) (hy : y = nI b := by rfl) (ha : a < 2 ^ 31 := by omega) (hb : b < 2 ^ 31 := by omega) : (x ≤ y → A) ∧ (¬ x ≤ y → B) := by
  subst hx hy
  rw [nI_leI ha hb]
  exact ⟨f, fun z => g (by omega)⟩
theorem pk_lt {x y : Int32} {A B : Prop} (a b : Nat) (f : a < b → A) (g : b ≤ a → B) (hx : x = nI a := by rfl) (hy : y = nI b := by rfl) (ha : a < 2 ^ 31 := by omega) (hb : b < 2 ^ 31 := by omega) : (x < y → A) ∧ (¬ x < y → B) := by
  subst hx hy
  rw [nI_ltI ha hb]
  exact ⟨f, fun z => g (by omega)⟩
theorem pk_eq {x y : Int32} {A B : Prop} (a b : Nat) (f : a = b → A) (g : a ≠ b → B) (hx : x = nI a := by rfl) (hy : y = nI b := by rfl) (ha : a < 2 ^ 31 := by omega) (hb : b < 2 ^ 31 := by omega) : (x = y → A) ∧ (¬ x = y → B) := by
  subst hx hy
  rw [nI_eq ha hb]
  exact ⟨f, g⟩
theorem pk_in {x : Int32} (n N : Nat) (h : n < N) (hx : x = nI n := by rfl) (hN : N < 2 ^ 31 := by omega) : vp_in x N := by
  subst hx
  exact vp_in_nI h hN
theorem pk_cl {x : Int32} (n : Nat) (hx : x = nI n := by rfl) (h : n < 2 ^ 31 := by omega) : x.toNatClampNeg = n := by
  subst hx
  exact nI_clamp h
/-! an array whose cells are naturals -/
def dm_nn (L : Nat → Nat) : Nat → Int32 := fun j => nI (L j)
def dm_un (L : Nat → Nat) (k m : Nat) : Nat → Nat := fun j => if j = k then m else L j
theorem dm_upd (L : Nat → Nat) (k m : Nat) : upd (dm_nn L) k (nI m) = dm_nn (dm_un L k m) := by
  funext j
  unfold upd dm_nn dm_un
  split <;> rfl
theorem dm_us {L : Nat → Nat} {k m : Nat} : dm_un L k m k = m := if_pos rfl
theorem dm_ud {L : Nat → Nat} {k m j : Nat} (h : j ≠ k) : dm_un L k m j = L j := if_neg h
theorem dm_uu (L : Nat → Nat) (k m q : Nat) : dm_un (dm_un L k m) k q = dm_un L k q := by
  funext j
  unfold dm_un
  split <;> rfl
/-! the code -/
def dm_hb (H : Nat → Nat) (f : Nat) : Nat → Nat
  | 0 => 0
  | i + 1 => H (f * 32 + i)
def dm_af (o h : Nat) : Nat :=
  if o = 0 ∨ o = 1 ∨ o = 3 ∨ o = 12 then h + 1 else if o = 10 ∨ o = 11 ∨ o = 16 then 0 else if o = 13 then h else h - 1
def dm_nd (o h : Nat) : Prop :=
  if o = 0 ∨ o = 1 ∨ o = 3 ∨ o = 12 then h < 6 else if o = 2 ∨ o = 4 ∨ o = 13 ∨ o = 15 then 1 ≤ h else if o = 10 then h = 0 else if o = 11 ∨ o = 16 then h = 1 else 2 ≤ h
def dm_lim (F C o : Nat) : Nat :=
  if o = 1 ∨ o = 2 then 4 else if o = 3 ∨ o = 4 then 8 else if o = 10 ∨ o = 11 then C else if o = 12 ∨ o = 13 ∨ o = 14 then F else 0
def dm_oo (F C o : Nat) (x : Int32) : Prop := 0 < dm_lim F C o → ∃ m, m < dm_lim F C o ∧ x = nI m
def dm_CK (F C : Nat) (O : Nat → Nat) (xs : Nat → Int32) (H L : Nat → Nat) : Prop :=
  ∀ f, f < F → L f ≤ C ∧ ∀ i, i < L f → O (f * 32 + i) ≤ 16 ∧ dm_oo F C (O (f * 32 + i)) (xs (f * 32 + i)) ∧ dm_hb H f i ≤ 6 ∧ dm_nd (O (f * 32 + i)) (dm_hb H f i) ∧ H (f * 32 + i) = dm_af (O (f * 32 + i)) (dm_hb H f i)
def dm_SK (F : Nat) (O : Nat → Nat) (xs : Nat → Int32) (H L : Nat → Nat) (sl : Nat → Int32) : Prop :=
  ∀ f, f < F → ¬ sl f = 0 → 0 < L f ∧ (O (f * 32 + (L f - 1)) = 10 ∨ O (f * 32 + (L f - 1)) = 16) ∧ ∀ i, i < L f → (O (f * 32 + i) = 10 ∨ O (f * 32 + i) = 11) → ∃ t, t < L f ∧ xs (f * 32 + i) = nI t ∧ dm_hb H f t = 0
def dm_FK (F : Nat) (H L : Nat → Nat) (sl : Nat → Int32) (fc : Nat) (FF FP PC : Nat → Nat) : Prop :=
  ∀ d, d < fc → FF d < F ∧ ¬ sl (FF d) = 0 ∧ FP d < L (FF d) ∧ PC d + (if d + 1 = fc then 0 else 1) = dm_hb H (FF d) (FP d)
section
variable {F C : Nat} {O : Nat → Nat} {xs : Nat → Int32} {H L : Nat → Nat} {sl : Nat → Int32} {fc t : Nat} {FF FP PC : Nat → Nat}
theorem dm_hbs (H : Nat → Nat) (f i : Nat) : dm_hb H f (i + 1) = H (f * 32 + i) := rfl
theorem dm_af6 {o h : Nat} (hn : dm_nd o h) (h6 : h ≤ 6) : dm_af o h ≤ 6 := by
  unfold dm_nd at hn
  unfold dm_af
  by_cases a : o = 0 ∨ o = 1 ∨ o = 3 ∨ o = 12
  · rw [if_pos a] at hn ⊢
    omega
  · rw [if_neg a]
    split
    · omega
    · split <;> omega
theorem dm_hbc {H' : Nat → Nat} {f i : Nat} (h : ∀ j, j < i → H' (f * 32 + j) = H (f * 32 + j)) : dm_hb H' f i = dm_hb H f i := by
  cases i with
  | zero => rfl
  | succ j => exact h j (Nat.lt_succ_self j)
theorem dm_hb6 (K : dm_CK F C O xs H L) {f i : Nat} (hf : f < F) (hi : i ≤ L f) : dm_hb H f i ≤ 6 := by
  cases i with
  | zero => exact Nat.zero_le _
  | succ j =>
    obtain ⟨_, _, h6, hn, e⟩ := (K f hf).2 j hi
    rw [dm_hbs, e]
    exact dm_af6 hn h6
/-! emit -/
theorem dm_CKe (K : dm_CK F C O xs H L) (hC : C ≤ 32) {f o : Nat} {x : Int32} (hl : L f < C) (ho : o ≤ 16) (hx : dm_oo F C o x) (hn : dm_nd o (dm_hb H f (L f))) :
    dm_CK F C (dm_un O (f * 32 + L f) o) (upd xs (f * 32 + L f) x) (dm_un H (f * 32 + L f) (dm_af o (dm_hb H f (L f)))) (dm_un L f (L f + 1)) := by
  intro g hg
  by_cases e : g = f
  · cases e
    rw [dm_us (L := L) (k := f) (m := L f + 1)]
    refine ⟨hl, fun i hi => ?_⟩
    have hb : dm_hb (dm_un H (f * 32 + L f) (dm_af o (dm_hb H f (L f)))) f i = dm_hb H f i := dm_hbc fun j hj => dm_ud (by omega)
    rw [hb]
    by_cases ei : i = L f
    · rw [ei, dm_us, dm_us, pk_us]
      exact ⟨ho, hx, dm_hb6 K hg (Nat.le_refl _), hn, rfl⟩
    · have hne : f * 32 + i ≠ f * 32 + L f := by omega
      rw [dm_ud hne, dm_ud hne, pk_un hne]
      exact (K f hg).2 i (by omega)
  · rw [dm_ud (L := L) e]
    refine ⟨(K g hg).1, fun i hi => ?_⟩
    have h1 := (K g hg).1
    have hne : ∀ j, j < 32 → g * 32 + j ≠ f * 32 + L f := fun j hj => by omega
    have hb : dm_hb (dm_un H (f * 32 + L f) (dm_af o (dm_hb H f (L f)))) g i = dm_hb H g i := dm_hbc fun j hj => dm_ud (hne j (by omega))
    rw [hb, dm_ud (hne i (by omega)), dm_ud (hne i (by omega)), pk_un (hne i (by omega))]
    exact (K g hg).2 i hi
theorem dm_SKe (K : dm_CK F C O xs H L) (S : dm_SK F O xs H L sl) (hC : C ≤ 32) {f o m : Nat} {x : Int32} (hl : L f < C) (h0 : sl f = 0) :
    dm_SK F (dm_un O (f * 32 + L f) o) (upd xs (f * 32 + L f) x) (dm_un H (f * 32 + L f) m) (dm_un L f (L f + 1)) sl := by
  intro g hg hs
  have e : g ≠ f := fun e => hs (by rw [e]; exact h0)
  have h1 := (K g hg).1
  have hne : ∀ j, j < 32 → g * 32 + j ≠ f * 32 + L f := fun j hj => by omega
  obtain ⟨a, b, c⟩ := S g hg hs
  rw [dm_ud (L := L) e]
  refine ⟨a, ?_, fun i hi ho => ?_⟩
  · rw [dm_ud (hne _ (by omega))]
    exact b
  · rw [dm_ud (hne i (by omega))] at ho
    obtain ⟨t, ht, ex, eh⟩ := c i hi ho
    refine ⟨t, ht, ?_, ?_⟩
    · rw [pk_un (hne i (by omega))]
      exact ex
    · rw [dm_hbc (H := H) fun j hj => dm_ud (hne j (by omega))]
      exact eh
theorem dm_FKe (K : dm_CK F C O xs H L) (T : dm_FK F H L sl fc FF FP PC) (hC : C ≤ 32) {f m : Nat} (hl : L f < C) (h0 : sl f = 0) :
    dm_FK F (dm_un H (f * 32 + L f) m) (dm_un L f (L f + 1)) sl fc FF FP PC := by
  intro d hd
  obtain ⟨a, b, c, e4⟩ := T d hd
  have e : FF d ≠ f := fun e => b (by rw [e]; exact h0)
  have h1 := (K (FF d) a).1
  have hne : ∀ j, j < 32 → FF d * 32 + j ≠ f * 32 + L f := fun j hj => by omega
  rw [dm_ud (L := L) e]
  refine ⟨a, b, c, ?_⟩
  rw [dm_hbc (H := H) fun j hj => dm_ud (hne j (by omega))]
  exact e4
/-! erase -/
theorem dm_CKr (K : dm_CK F C O xs H L) (f : Nat) : dm_CK F C O xs H (dm_un L f 0) := by
  intro g hg
  by_cases e : g = f
  · rw [e, dm_us]
    exact ⟨Nat.zero_le _, fun i hi => absurd hi (Nat.not_lt_zero _)⟩
  · rw [dm_ud e]
    exact K g hg
theorem dm_SKr (S : dm_SK F O xs H L sl) (f : Nat) : dm_SK F O xs H (dm_un L f 0) (upd sl f 0) := by
  intro g hg hs
  by_cases e : g = f
  · exact absurd (by rw [e]; exact pk_us) hs
  · rw [pk_un e] at hs
    rw [dm_ud e]
    exact S g hg hs
theorem dm_FKr (T : dm_FK F H L sl fc FF FP PC) (f : Nat) (hno : ∀ d, d < fc → FF d ≠ f) : dm_FK F H (dm_un L f 0) (upd sl f 0) fc FF FP PC := by
  intro d hd
  rw [dm_ud (hno d hd), pk_un (hno d hd)]
  exact T d hd
/-! seal -/
theorem dm_SKs (S : dm_SK F O xs H L sl) {f : Nat} {x : Int32} (h0 : 0 < L f) (hl : O (f * 32 + (L f - 1)) = 10 ∨ O (f * 32 + (L f - 1)) = 16)
    (hj : ∀ i, i < L f → (O (f * 32 + i) = 10 ∨ O (f * 32 + i) = 11) → ∃ t, t < L f ∧ xs (f * 32 + i) = nI t ∧ dm_hb H f t = 0) : dm_SK F O xs H L (upd sl f x) := by
  intro g hg hs
  by_cases e : g = f
  · rw [e]
    exact ⟨h0, hl, hj⟩
  · rw [pk_un e] at hs
    exact S g hg hs
theorem dm_FKs (T : dm_FK F H L sl fc FF FP PC) {f : Nat} {x : Int32} (hx : ¬ x = 0) : dm_FK F H L (upd sl f x) fc FF FP PC := by
  intro d hd
  obtain ⟨a, b, c⟩ := T d hd
  refine ⟨a, ?_, c⟩
  by_cases e : FF d = f
  · rw [e, pk_us]
    exact hx
  · rw [pk_un e]
    exact b
/-! frames -/
theorem dm_FKg (T : dm_FK F H L sl (t + 1) FF FP PC) {FP' PC' : Nat → Nat} (hp : ∀ d, d ≠ t → FP' d = FP d) (hc : ∀ d, d ≠ t → PC' d = PC d)
    (h1 : FP' t < L (FF t)) (h2 : PC' t = dm_hb H (FF t) (FP' t)) : dm_FK F H L sl (t + 1) FF FP' PC' := by
  intro d hd
  obtain ⟨a, b, c, e⟩ := T d hd
  by_cases h : d = t
  · cases h
    refine ⟨a, b, h1, ?_⟩
    rw [if_pos rfl]
    exact h2
  · rw [hp d h, hc d h]
    exact ⟨a, b, c, e⟩
theorem dm_FKc (T : dm_FK F H L sl (t + 1) FF FP PC) {FF' FP' PC' : Nat → Nat} (hf : ∀ d, d ≠ t + 1 → FF' d = FF d) (hp : ∀ d, d ≠ t → d ≠ t + 1 → FP' d = FP d)
    (hc : ∀ d, d ≠ t → d ≠ t + 1 → PC' d = PC d) (h1 : FP' t < L (FF t)) (h2 : PC' t + 1 = dm_hb H (FF t) (FP' t))
    (g1 : FF' (t + 1) < F) (g2 : ¬ sl (FF' (t + 1)) = 0) (g3 : FP' (t + 1) = 0) (g4 : PC' (t + 1) = 0) (g5 : 0 < L (FF' (t + 1))) : dm_FK F H L sl (t + 2) FF' FP' PC' := by
  intro d hd
  by_cases h : d = t + 1
  · cases h
    refine ⟨g1, g2, ?_, ?_⟩
    · rw [g3]
      exact g5
    · rw [if_pos rfl, g3, g4]
      rfl
  · rw [hf d h]
    obtain ⟨a, b, c, e⟩ := T d (by omega)
    by_cases h' : d = t
    · cases h'
      refine ⟨a, b, h1, ?_⟩
      rw [if_neg (by omega)]
      exact h2
    · rw [hp d h' h, hc d h' h, if_neg (by omega)]
      rw [if_neg (by omega)] at e
      exact ⟨a, b, c, e⟩
theorem dm_FKt (T : dm_FK F H L sl (t + 1 + 1) FF FP PC) {FP' PC' : Nat → Nat} (hp : ∀ d, d < t + 1 → FP' d = FP d) (hc : ∀ d, d < t → PC' d = PC d) (h2 : PC' t = PC t + 1) : dm_FK F H L sl (t + 1) FF FP' PC' := by
  intro d hd
  obtain ⟨a, b, c, e⟩ := T d (by omega)
  rw [hp d hd]
  rw [if_neg (by omega)] at e
  by_cases h : d = t
  · cases h
    refine ⟨a, b, c, ?_⟩
    rw [if_pos rfl, h2]
    exact e
  · rw [hc d (by omega), if_neg (by omega)]
    exact ⟨a, b, c, e⟩
theorem dm_FK0 : dm_FK F H L sl 0 FF FP PC := fun d hd => absurd hd (Nat.not_lt_zero d)
theorem dm_FK1 (g1 : FF 0 < F) (g2 : ¬ sl (FF 0) = 0) (g3 : FP 0 = 0) (g4 : PC 0 = 0) (g5 : 0 < L (FF 0)) : dm_FK F H L sl 1 FF FP PC := by
  intro d hd
  obtain rfl : d = 0 := by omega
  refine ⟨g1, g2, ?_, ?_⟩
  · rw [g3]
    exact g5
  · rw [g3, g4]
    rfl
theorem dm_nx (S : dm_SK F O xs H L sl) {f p : Nat} (hf : f < F) (hs : ¬ sl f = 0) (hp : p < L f) (h10 : O (f * 32 + p) ≠ 10) (h16 : O (f * 32 + p) ≠ 16) : p + 1 < L f := by
  obtain ⟨a, b, _⟩ := S f hf hs
  by_cases e : p = L f - 1
  · rw [← e] at b
    omega
  · omega
end
end DMA
