/-! how loud: the least table that is closed; whoever stays below every closed table and is closed himself has it -/
def sp_cl (n : Nat) (E : Nat → Nat → Prop) (p : Nat → Nat → Nat → Nat) (s z : Nat) (T : Nat → Nat) : Prop := z ≤ T s ∧ ∀ a b, a < n → b < n → E a b → p a b (T a) ≤ T b
def sp_be (n : Nat) (E : Nat → Nat → Prop) (p : Nat → Nat → Nat → Nat) (s z : Nat) (T : Nat → Nat) : Prop := ∀ T', sp_cl n E p s z T' → ∀ y, y < n → T y ≤ T' y
def sp_L (n : Nat) (E : Nat → Nat → Prop) (p : Nat → Nat → Nat → Nat) (s z : Nat) (T : Nat → Nat) : Prop := sp_cl n E p s z T ∧ sp_be n E p s z T
/-- what is asked of what a border lets through -/
def sp_p (p : Nat → Nat → Nat → Nat) : Prop := (∀ a b v w, v ≤ w → p a b v ≤ p a b w) ∧ ∀ a b v, p a b v ≤ v - 1
theorem sp_one {n : Nat} {E : Nat → Nat → Prop} {p : Nat → Nat → Nat → Nat} {s z : Nat} {T T' : Nat → Nat} (h : sp_L n E p s z T) (h' : sp_L n E p s z T') : ∀ y, y < n → T y = T' y := fun y hy => Nat.le_antisymm (h.2 T' h'.1 y hy) (h'.2 T h.1 y hy)
theorem sp_be0 {n : Nat} {E : Nat → Nat → Prop} {p : Nat → Nat → Nat → Nat} {s z : Nat} {T : Nat → Nat} (h : ∀ y, y < n → T y = if y = s then z else 0) : sp_be n E p s z T := by
  intro T' h' y hy
  rw [h y hy]
  by_cases e : y = s
  · rw [if_pos e, e]
    exact h'.1
  · rw [if_neg e]
    exact Nat.zero_le _
/-- one border crossed -/
theorem sp_beS {n : Nat} {E : Nat → Nat → Prop} {p : Nat → Nat → Nat → Nat} {s z a b : Nat} {T T1 : Nat → Nat} (hp : sp_p p) (h : sp_be n E p s z T) (ha : a < n) (hb : b < n) (he : E a b) (h1 : T1 b = p a b (T a)) (h2 : ∀ y, y < n → y ≠ b → T1 y = T y) : sp_be n E p s z T1 := by
  intro T' h' y hy
  by_cases e : y = b
  · subst e
    rw [h1]
    exact Nat.le_trans (hp.1 a y _ _ (h T' h' a ha)) (h'.2 a y ha hb he)
  · rw [h2 y hy e]
    exact h T' h' y hy
theorem sp_const {n : Nat} {E : Nat → Nat → Prop} {p : Nat → Nat → Nat → Nat} {s z : Nat} (hp : sp_p p) : sp_cl n E p s z (fun _ => z) := ⟨Nat.le_refl _, fun a b _ _ _ => Nat.le_trans (hp.2 a b z) (Nat.sub_le _ _)⟩
theorem sp_least (P : Nat → Prop) : ∀ k, P k → ∃ j, P j ∧ ∀ i, P i → j ≤ i := by
  intro k
  induction k using Nat.strongRecOn with
  | _ k ih =>
    intro hk
    by_cases h : ∃ i, i < k ∧ P i
    · obtain ⟨i, h1, h2⟩ := h
      exact ih i h1 h2
    · exact ⟨k, hk, fun i hi => Nat.le_of_not_lt fun q => h ⟨i, q, hi⟩⟩
/-- the least closed table is there -/
theorem sp_ex {n : Nat} {E : Nat → Nat → Prop} {p : Nat → Nat → Nat → Nat} {s z : Nat} (hp : sp_p p) (hs : s < n) : ∃ L, sp_L n E p s z L := by
  have key : ∀ y, ∃ j, (∃ T, sp_cl n E p s z T ∧ T y = j) ∧ ∀ i, (∃ T, sp_cl n E p s z T ∧ T y = i) → j ≤ i := fun y => sp_least (fun j => ∃ T, sp_cl n E p s z T ∧ T y = j) z ⟨_, sp_const hp, rfl⟩
  refine ⟨fun y => Classical.choose (key y), ⟨?_, ?_⟩, ?_⟩
  · obtain ⟨⟨T, h1, h2⟩, -⟩ := Classical.choose_spec (key s)
    show z ≤ Classical.choose (key s)
    rw [← h2]
    exact h1.1
  · intro a b ha hb he
    obtain ⟨⟨T, h1, h2⟩, -⟩ := Classical.choose_spec (key b)
    have h3 := (Classical.choose_spec (key a)).2 (T a) ⟨T, h1, rfl⟩
    show p a b (Classical.choose (key a)) ≤ Classical.choose (key b)
    rw [← h2]
    exact Nat.le_trans (hp.1 a b _ _ h3) (h1.2 a b ha hb he)
  · intro T h y hy
    exact (Classical.choose_spec (key y)).2 (T y) ⟨T, h, rfl⟩
/-- what is loud has it from somewhere -/
theorem sp_from {n : Nat} {E : Nat → Nat → Prop} {p : Nat → Nat → Nat → Nat} {s z : Nat} {L : Nat → Nat} (hp : sp_p p) (h : sp_L n E p s z L) {y : Nat} (hy : y < n) (h0 : 0 < L y) (hs : y ≠ s) : ∃ a, a < n ∧ E a y ∧ L y ≤ p a y (L a) := by
  refine Classical.byContradiction fun hn => ?_
  have hlt : ∀ a, a < n → E a y → p a y (L a) < L y := fun a ha he => Nat.lt_of_not_le fun q => hn ⟨a, ha, he, q⟩
  have hc : sp_cl n E p s z (fun x => if x = y then L y - 1 else L x) := by
    refine ⟨?_, fun a b ha hb he => ?_⟩
    · show z ≤ if s = y then L y - 1 else L s
      rw [if_neg (fun q => hs q.symm)]
      exact h.1.1
    · show p a b (if a = y then L y - 1 else L a) ≤ if b = y then L y - 1 else L b
      have e1 : (if a = y then L y - 1 else L a) ≤ L a := by
        by_cases e : a = y
        · rw [if_pos e, e]
          omega
        · rw [if_neg e]
          exact Nat.le_refl _
      have e2 := hp.1 a b _ _ e1
      by_cases e : b = y
      · rw [if_pos e]
        subst e
        have := hlt a ha he
        omega
      · rw [if_neg e]
        exact Nat.le_trans e2 (h.1.2 a b ha hb he)
  have h1 := h.2 _ hc y hy
  have h2 : (if y = y then L y - 1 else L y) = L y - 1 := if_pos rfl
  have h3 : L y ≤ if y = y then L y - 1 else L y := h1
  omega
theorem sp_top {n : Nat} {E : Nat → Nat → Prop} {p : Nat → Nat → Nat → Nat} {s z : Nat} {L : Nat → Nat} (hp : sp_p p) (h : sp_L n E p s z L) {y : Nat} (hy : y < n) : L y ≤ z := h.2 _ (sp_const hp) y hy
/-- of those that aren't right yet one has the most -/
theorem sp_most {n : Nat} (f : Nat → Nat) (P : Nat → Prop) (h : ∃ y, y < n ∧ P y) : ∃ y, y < n ∧ P y ∧ ∀ x, x < n → P x → f x ≤ f y := by
  induction n with
  | zero =>
    obtain ⟨y, h1, -⟩ := h
    exact absurd h1 (Nat.not_lt_zero y)
  | succ n ih =>
    by_cases h1 : ∃ y, y < n ∧ P y
    · obtain ⟨y, a1, a2, a3⟩ := ih h1
      by_cases h2 : P n ∧ f y < f n
      · refine ⟨n, Nat.lt_succ_self n, h2.1, fun x hx hP => ?_⟩
        rcases Nat.lt_or_eq_of_le (Nat.le_of_lt_succ hx) with q | q
        · exact Nat.le_trans (a3 x q hP) (Nat.le_of_lt h2.2)
        · rw [q]
          exact Nat.le_refl _
      · refine ⟨y, Nat.lt_succ_of_lt a1, a2, fun x hx hP => ?_⟩
        rcases Nat.lt_or_eq_of_le (Nat.le_of_lt_succ hx) with q | q
        · exact a3 x q hP
        · subst q
          exact Nat.le_of_not_lt fun z => h2 ⟨hP, z⟩
    · obtain ⟨y, b1, b2⟩ := h
      have e : y = n := by
        rcases Nat.lt_or_eq_of_le (Nat.le_of_lt_succ b1) with q | q
        · exact absurd ⟨y, q, b2⟩ h1
        · exact q
      subst e
      refine ⟨y, b1, b2, fun x hx hP => ?_⟩
      rcases Nat.lt_or_eq_of_le (Nat.le_of_lt_succ hx) with q | q
      · exact absurd ⟨x, q, hP⟩ h1
      · rw [q]
        exact Nat.le_refl _
def sp_ct (q : Nat → Prop) : Nat → Nat → Prop
  | 0, k => k = 0
  | n + 1, k => (q n ∧ ∃ j, k = j + 1 ∧ sp_ct q n j) ∨ (¬ q n ∧ sp_ct q n k)
theorem sp_ct_le {q : Nat → Prop} : ∀ n k, sp_ct q n k → k ≤ n
  | 0, k, h => by
    have e : k = 0 := h
    omega
  | n + 1, k, h => by
    rcases h with ⟨-, j, rfl, h⟩ | ⟨-, h⟩
    · have := sp_ct_le n j h
      omega
    · have := sp_ct_le n k h
      omega
theorem sp_ct_ex (q : Nat → Prop) : ∀ n, ∃ k, sp_ct q n k
  | 0 => ⟨0, rfl⟩
  | n + 1 => by
    obtain ⟨k, h⟩ := sp_ct_ex q n
    by_cases e : q n
    · exact ⟨k + 1, Or.inl ⟨e, k, rfl, h⟩⟩
    · exact ⟨k, Or.inr ⟨e, h⟩⟩
theorem sp_ct_all {q : Nat → Prop} : ∀ n, sp_ct q n n → ∀ y, y < n → q y
  | 0, _, y, hy => absurd hy (Nat.not_lt_zero y)
  | n + 1, h, y, hy => by
    rcases h with ⟨e, j, h1, h⟩ | ⟨-, h⟩
    · have e2 : j = n := by omega
      subst e2
      rcases Nat.lt_or_eq_of_le (Nat.le_of_lt_succ hy) with a | a
      · exact sp_ct_all j h y a
      · rw [a]
        exact e
    · have := sp_ct_le n (n + 1) h
      omega
theorem sp_ct_mono {q r : Nat → Prop} : ∀ n k j, (∀ y, y < n → q y → r y) → sp_ct q n k → sp_ct r n j → k ≤ j
  | 0, k, j, _, h1, h2 => by
    have e1 : k = 0 := h1
    omega
  | n + 1, k, j, hm, h1, h2 => by
    have hm' : ∀ y, y < n → q y → r y := fun y hy => hm y (Nat.lt_succ_of_lt hy)
    rcases h1 with ⟨e1, k', rfl, h1⟩ | ⟨e1, h1⟩
    · rcases h2 with ⟨e2, j', rfl, h2⟩ | ⟨e2, h2⟩
      · have := sp_ct_mono n k' j' hm' h1 h2
        omega
      · exact absurd (hm n (Nat.lt_succ_self n) e1) e2
    · rcases h2 with ⟨e2, j', rfl, h2⟩ | ⟨e2, h2⟩
      · have := sp_ct_mono n k j' hm' h1 h2
        omega
      · exact sp_ct_mono n k j hm' h1 h2
theorem sp_ct_more {q r : Nat → Prop} : ∀ n k j, (∀ y, y < n → q y → r y) → (∃ y, y < n ∧ r y ∧ ¬ q y) → sp_ct q n k → sp_ct r n j → k < j
  | 0, _, _, _, h, _, _ => by
    obtain ⟨y, h1, -⟩ := h
    exact absurd h1 (Nat.not_lt_zero y)
  | n + 1, k, j, hm, hx, h1, h2 => by
    have hm' : ∀ y, y < n → q y → r y := fun y hy => hm y (Nat.lt_succ_of_lt hy)
    rcases h1 with ⟨e1, k', rfl, h1⟩ | ⟨e1, h1⟩
    · rcases h2 with ⟨e2, j', rfl, h2⟩ | ⟨e2, h2⟩
      · have hx' : ∃ y, y < n ∧ r y ∧ ¬ q y := by
          obtain ⟨y, a1, a2, a3⟩ := hx
          rcases Nat.lt_or_eq_of_le (Nat.le_of_lt_succ a1) with a | a
          · exact ⟨y, a, a2, a3⟩
          · rw [a] at a3
            exact absurd e1 a3
        have := sp_ct_more n k' j' hm' hx' h1 h2
        omega
      · exact absurd (hm n (Nat.lt_succ_self n) e1) e2
    · rcases h2 with ⟨e2, j', rfl, h2⟩ | ⟨e2, h2⟩
      · have := sp_ct_mono n k j' hm' h1 h2
        omega
      · have hx' : ∃ y, y < n ∧ r y ∧ ¬ q y := by
          obtain ⟨y, a1, a2, a3⟩ := hx
          rcases Nat.lt_or_eq_of_le (Nat.le_of_lt_succ a1) with a | a
          · exact ⟨y, a, a2, a3⟩
          · rw [a] at a2
            exact absurd a2 e2
        exact sp_ct_more n k j hm' hx' h1 h2
/-- how far the sweeps are: so many yards at least have what they'll have -/
def sp_far (n : Nat) (E : Nat → Nat → Prop) (p : Nat → Nat → Nat → Nat) (s z : Nat) (T : Nat → Nat) (k : Nat) : Prop := ∀ L, sp_L n E p s z L → ∀ c, sp_ct (fun y => L y ≤ T y) n c → k ≤ c ∨ n ≤ c
theorem sp_far0 {n : Nat} {E : Nat → Nat → Prop} {p : Nat → Nat → Nat → Nat} {s z : Nat} {T : Nat → Nat} : sp_far n E p s z T 0 := fun _ _ _ _ => Or.inl (Nat.zero_le _)
theorem sp_farS {n : Nat} {E : Nat → Nat → Prop} {p : Nat → Nat → Nat → Nat} {s z : Nat} {T T1 : Nat → Nat} {k : Nat} (hp : sp_p p) (hz : z ≤ T s) (h : sp_far n E p s z T k) (hm : ∀ y, y < n → T y ≤ T1 y) (hr : ∀ a b, a < n → b < n → E a b → p a b (T a) ≤ T1 b) : sp_far n E p s z T1 (k + 1) := by
  intro L hL c hc
  obtain ⟨c0, hc0⟩ := sp_ct_ex (fun y => L y ≤ T y) n
  have hmm : ∀ y, y < n → L y ≤ T y → L y ≤ T1 y := fun y hy q => Nat.le_trans q (hm y hy)
  rcases h L hL c0 hc0 with q | q
  · by_cases hall : ∃ y, y < n ∧ ¬ L y ≤ T y
    · obtain ⟨y, a1, a2, a3⟩ := sp_most L (fun y => ¬ L y ≤ T y) hall
      have hs : y ≠ s := fun e => a2 (by
        rw [e]
        exact Nat.le_trans (sp_top hp hL (by rw [← e]; exact a1)) hz)
      obtain ⟨b, b1, b2, b3⟩ := sp_from hp hL a1 (by omega) hs
      have hb : L b ≤ T b := Classical.byContradiction fun w => by
        have := a3 b b1 w
        have := hp.2 b y (L b)
        omega
      have hy1 : L y ≤ T1 y := Nat.le_trans b3 (Nat.le_trans (hp.1 b y _ _ hb) (hr b y b1 a1 b2))
      have := sp_ct_more n c0 c hmm ⟨y, a1, hy1, a2⟩ hc0 hc
      omega
    · right
      have hq : sp_ct (fun y => L y ≤ T1 y) n n := by
        have : ∀ m, m ≤ n → sp_ct (fun y => L y ≤ T1 y) m m := by
          intro m
          induction m with
          | zero => exact fun _ => rfl
          | succ m ih => exact fun hmn => Or.inl ⟨hmm m hmn (Classical.byContradiction fun w => hall ⟨m, hmn, w⟩), m, rfl, ih (Nat.le_of_succ_le hmn)⟩
        exact this n (Nat.le_refl n)
      exact sp_ct_mono n n c (fun _ _ q => q) hq hc
  · right
    exact Nat.le_trans q (sp_ct_mono n c0 c hmm hc0 hc)
/-- after so many rounds all have it -/
theorem sp_done {n : Nat} {E : Nat → Nat → Prop} {p : Nat → Nat → Nat → Nat} {s z : Nat} {T : Nat → Nat} {k : Nat} (hp : sp_p p) (hs : s < n) (hb : sp_be n E p s z T) (h : sp_far n E p s z T k) (hk : n ≤ k) : sp_L n E p s z T := by
  obtain ⟨L, hL⟩ := sp_ex (E := E) (z := z) hp hs
  obtain ⟨c, hc⟩ := sp_ct_ex (fun y => L y ≤ T y) n
  have hn : n ≤ c := by
    rcases h L hL c hc with q | q <;> omega
  have e : c = n := Nat.le_antisymm (sp_ct_le n c hc) hn
  rw [e] at hc
  have hall := sp_ct_all n hc
  have heq : ∀ y, y < n → T y = L y := fun y hy => Nat.le_antisymm (hb L hL.1 y hy) (hall y hy)
  refine ⟨⟨?_, fun a b ha hb' he => ?_⟩, hb⟩
  · rw [heq s hs]
    exact hL.1.1
  · rw [heq a ha, heq b hb']
    exact hL.1.2 a b ha hb' he
