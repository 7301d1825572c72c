/-! pure part: the text, in the class (its automaton written by wip/gen/text.py) -/
def cN (t : Nat → Int32) (l i : Nat) : Nat := if i < l then (t i).toInt.toNat else 0
def Chr (t : Nat → Int32) (l : Nat) : Prop := l ≤ 60 ∧ ∀ i, i < l → 33 ≤ (t i).toInt ∧ (t i).toInt ≤ 126
theorem cN_lt {t : Nat → Int32} {l : Nat} (h : Chr t l) (i : Nat) : cN t l i < 127 := by
  unfold cN
  by_cases e : i < l
  · rw [if_pos e]; have := h.2 i e; omega
  · rw [if_neg e]; omega
theorem cN_ge {t : Nat → Int32} {l i : Nat} (h : l ≤ i) : cN t l i = 0 := if_neg (by omega)
theorem cN_in {t : Nat → Int32} {l i : Nat} (h : Chr t l) (hi : i < l) : t i = nI (cN t l i) := by
  unfold cN
  rw [if_pos hi]
  exact tI_of (by have := h.2 i hi; omega)
theorem cN_pos {t : Nat → Int32} {l i : Nat} (h : Chr t l) (hi : i < l) : 33 ≤ cN t l i := by
  unfold cN
  rw [if_pos hi]
  have := h.2 i hi; omega
theorem cN_in2 {t : Nat → Int32} {l i : Nat} (hi : cN t l i ≠ 0) : i < l := by
  rcases Nat.lt_or_ge i l with q | q
  · exact q
  · exact absurd (cN_ge q) hi
/-- the automaton -/
def aEnd (k : Nat) : Int32 := if k = 59 then 0 else -1
def aLet (k : Nat) : Int32 := if k = 98 then 1 else if k = 102 then 6 else if k = 104 then 7 else if k = 110 then 10 else if k = 111 then 10 else if k = 119 then 5 else -1
def aHr (k : Nat) : Int32 := if k = 49 then 8 else if k = 50 then 9 else if 51 ≤ k ∧ k ≤ 57 then 10 else -1
def aft (q : Int32) (k : Nat) : Int32 := if q = 0 then (aLet k) else if q = 1 then (if 48 ≤ k ∧ k ≤ 53 then 2 else -1) else if q = 2 then (if 48 ≤ k ∧ k ≤ 53 then 3 else -1) else if q = 3 then (if 49 ≤ k ∧ k ≤ 57 then 4 else -1) else if q = 4 then (if 48 ≤ k ∧ k ≤ 57 then 10 else aEnd k) else if q = 5 then (if 48 ≤ k ∧ k ≤ 53 then 6 else -1) else if q = 6 then (if 48 ≤ k ∧ k ≤ 53 then 10 else -1) else if q = 7 then (aHr k) else if q = 8 then (if 48 ≤ k ∧ k ≤ 57 then 10 else aEnd k) else if q = 9 then (if 48 ≤ k ∧ k ≤ 51 then 10 else aEnd k) else if q = 10 then (aEnd k) else -1
theorem aft_0 (k : Nat) : aft 0 k = aLet k := rfl
theorem aft_1 (k : Nat) : aft 1 k = if 48 ≤ k ∧ k ≤ 53 then 2 else -1 := by
  unfold aft
  rw [if_neg (by decide), if_pos rfl]
theorem aft_2 (k : Nat) : aft 2 k = if 48 ≤ k ∧ k ≤ 53 then 3 else -1 := by
  unfold aft
  rw [if_neg (by decide), if_neg (by decide), if_pos rfl]
theorem aft_3 (k : Nat) : aft 3 k = if 49 ≤ k ∧ k ≤ 57 then 4 else -1 := by
  unfold aft
  rw [if_neg (by decide), if_neg (by decide), if_neg (by decide), if_pos rfl]
theorem aft_4 (k : Nat) : aft 4 k = if 48 ≤ k ∧ k ≤ 57 then 10 else aEnd k := by
  unfold aft
  rw [if_neg (by decide), if_neg (by decide), if_neg (by decide), if_neg (by decide), if_pos rfl]
theorem aft_5 (k : Nat) : aft 5 k = if 48 ≤ k ∧ k ≤ 53 then 6 else -1 := by
  unfold aft
  rw [if_neg (by decide), if_neg (by decide), if_neg (by decide), if_neg (by decide), if_neg (by decide), if_pos rfl]
theorem aft_6 (k : Nat) : aft 6 k = if 48 ≤ k ∧ k ≤ 53 then 10 else -1 := by
  unfold aft
  rw [if_neg (by decide), if_neg (by decide), if_neg (by decide), if_neg (by decide), if_neg (by decide), if_neg (by decide), if_pos rfl]
theorem aft_7 (k : Nat) : aft 7 k = aHr k := by
  unfold aft
  rw [if_neg (by decide), if_neg (by decide), if_neg (by decide), if_neg (by decide), if_neg (by decide), if_neg (by decide), if_neg (by decide), if_pos rfl]
theorem aft_8 (k : Nat) : aft 8 k = if 48 ≤ k ∧ k ≤ 57 then 10 else aEnd k := by
  unfold aft
  rw [if_neg (by decide), if_neg (by decide), if_neg (by decide), if_neg (by decide), if_neg (by decide), if_neg (by decide), if_neg (by decide), if_neg (by decide), if_pos rfl]
theorem aft_9 (k : Nat) : aft 9 k = if 48 ≤ k ∧ k ≤ 51 then 10 else aEnd k := by
  unfold aft
  rw [if_neg (by decide), if_neg (by decide), if_neg (by decide), if_neg (by decide), if_neg (by decide), if_neg (by decide), if_neg (by decide), if_neg (by decide), if_neg (by decide), if_pos rfl]
theorem aft_10 (k : Nat) : aft 10 k = aEnd k := by
  unfold aft
  rw [if_neg (by decide), if_neg (by decide), if_neg (by decide), if_neg (by decide), if_neg (by decide), if_neg (by decide), if_neg (by decide), if_neg (by decide), if_neg (by decide), if_neg (by decide), if_pos rfl]
theorem aft_w (k : Nat) : aft (-1) k = -1 := by
  unfold aft
  rw [if_neg (by decide), if_neg (by decide), if_neg (by decide), if_neg (by decide), if_neg (by decide), if_neg (by decide), if_neg (by decide), if_neg (by decide), if_neg (by decide), if_neg (by decide), if_neg (by decide)]
theorem aft_nul (q : Int32) : aft q 0 = -1 := by
  unfold aft
  by_cases h0 : q = 0
  · rw [if_pos h0]; rfl
  rw [if_neg h0]
  by_cases h1 : q = 1
  · rw [if_pos h1]; rfl
  rw [if_neg h1]
  by_cases h2 : q = 2
  · rw [if_pos h2]; rfl
  rw [if_neg h2]
  by_cases h3 : q = 3
  · rw [if_pos h3]; rfl
  rw [if_neg h3]
  by_cases h4 : q = 4
  · rw [if_pos h4]; rfl
  rw [if_neg h4]
  by_cases h5 : q = 5
  · rw [if_pos h5]; rfl
  rw [if_neg h5]
  by_cases h6 : q = 6
  · rw [if_pos h6]; rfl
  rw [if_neg h6]
  by_cases h7 : q = 7
  · rw [if_pos h7]; rfl
  rw [if_neg h7]
  by_cases h8 : q = 8
  · rw [if_pos h8]; rfl
  rw [if_neg h8]
  by_cases h9 : q = 9
  · rw [if_pos h9]; rfl
  rw [if_neg h9]
  by_cases h10 : q = 10
  · rw [if_pos h10]; rfl
  rw [if_neg h10]
theorem w_isDigit {k lo hi : Nat} {a b : Int32} (ha : a = nI lo) (hb : b = nI hi) (hk : k < 127) (hl : lo < 127) (hh : hi < 127) {post : Int32 → Prop} (hp : post (if lo ≤ k ∧ k ≤ hi then 1 else 0)) : wp_X3_isDigit (nI k) a b post := by
  subst ha; subst hb
  refine ⟨fun h => ?_, fun h => ⟨fun h2 => ?_, fun h2 => ?_⟩⟩
  · rw [nI_ltI (by omega) (by omega)] at h
    rw [if_neg (by omega)] at hp; exact hp
  · rw [nI_ltI (by omega) (by omega)] at h2
    rw [if_neg (by omega)] at hp; exact hp
  · rw [nI_ltI (by omega) (by omega)] at h h2
    rw [if_pos (by omega)] at hp; exact hp
theorem w_aEnd {k : Nat} (hk : k < 127) {post : Int32 → Prop} (hp : post (aEnd k)) : wp_X3_afterEnd (nI k) post := by
  unfold aEnd at hp
  refine ⟨fun h => ?_, fun h => ?_⟩
  · rw [if_neg (fun e => h (by rw [e]; rfl))] at hp; exact hp
  · rw [if_pos ((nI_eq (b := 59) (by omega) (by omega)).mp h)] at hp; exact hp
/-- a test for a digit, and what comes of it -/
theorem w_dig {k lo hi : Nat} {a b v : Int32} (ha : a = nI lo) (hb : b = nI hi) (hk : k < 127) (hl : lo < 127) (hh : hi < 127) {post : Int32 → Prop} (hp : post (if lo ≤ k ∧ k ≤ hi then v else -1)) : wp_X3_isDigit (nI k) a b (fun r => ((r = 0 → post (-1)) ∧ (¬ r = 0 → post v))) := by
  refine w_isDigit ha hb hk hl hh ?_
  by_cases h : lo ≤ k ∧ k ≤ hi
  · rw [if_pos h] at hp ⊢
    exact ⟨fun q => absurd q (by decide), fun _ => hp⟩
  · rw [if_neg h] at hp ⊢
    exact ⟨fun _ => hp, fun q => absurd rfl q⟩
theorem w_digE {k lo hi : Nat} {a b v : Int32} (ha : a = nI lo) (hb : b = nI hi) (hk : k < 127) (hl : lo < 127) (hh : hi < 127) {post : Int32 → Prop} (hp : post (if lo ≤ k ∧ k ≤ hi then v else aEnd k)) : wp_X3_isDigit (nI k) a b (fun r => ((r = 0 → wp_X3_afterEnd (nI k) (fun r_7 => post r_7)) ∧ (¬ r = 0 → post v))) := by
  refine w_isDigit ha hb hk hl hh ?_
  by_cases h : lo ≤ k ∧ k ≤ hi
  · rw [if_pos h] at hp ⊢
    exact ⟨fun q => absurd q (by decide), fun _ => hp⟩
  · rw [if_neg h] at hp ⊢
    exact ⟨fun _ => w_aEnd hk hp, fun q => absurd rfl q⟩
theorem w_aHr {k : Nat} (hk : k < 127) {post : Int32 → Prop} (hp : post (aHr k)) : wp_X3_afterHours (nI k) post := by
  unfold aHr at hp
  refine ⟨fun h => ⟨fun h2 => ?_, fun h2 => ?_⟩, fun h => ?_⟩
  · rw [if_neg (fun e => h (by rw [e]; rfl)), if_neg (fun e => h2 (by rw [e]; rfl))] at hp
    exact w_dig (lo := 51) (hi := 57) rfl rfl hk (by decide) (by decide) hp
  · have e := (nI_eq (b := 50) (by omega) (by omega)).mp h2
    rw [if_neg (by omega), if_pos e] at hp; exact hp
  · rw [if_pos ((nI_eq (b := 49) (by omega) (by omega)).mp h)] at hp; exact hp
theorem w_aLet {k : Nat} (hk : k < 127) {post : Int32 → Prop} (hp : post (aLet k)) : wp_X3_afterLetter (nI k) post := by
  unfold aLet at hp
  intro w hw
  subst hw
  have E : ∀ j : Nat, j < 127 → (nI k = nI j ↔ k = j) := fun j hj => nI_eq (by omega) (by omega)
  refine ⟨fun h => by rw [if_pos ((E 98 (by decide)).mp h)] at hp; exact hp, fun h => ?_⟩
  rw [if_neg (fun e => h ((E 98 (by decide)).mpr e))] at hp
  refine ⟨fun h => by rw [if_pos ((E 102 (by decide)).mp h)] at hp; exact hp, fun h => ?_⟩
  rw [if_neg (fun e => h ((E 102 (by decide)).mpr e))] at hp
  refine ⟨fun h => by rw [if_pos ((E 104 (by decide)).mp h)] at hp; exact hp, fun h => ?_⟩
  rw [if_neg (fun e => h ((E 104 (by decide)).mpr e))] at hp
  refine ⟨fun h => by rw [if_pos ((E 110 (by decide)).mp h)] at hp; exact hp, fun h => ?_⟩
  rw [if_neg (fun e => h ((E 110 (by decide)).mpr e))] at hp
  refine ⟨fun h => by rw [if_pos ((E 111 (by decide)).mp h)] at hp; exact hp, fun h => ?_⟩
  rw [if_neg (fun e => h ((E 111 (by decide)).mpr e))] at hp
  refine ⟨fun h => by rw [if_pos ((E 119 (by decide)).mp h)] at hp; exact hp, fun h => ?_⟩
  rw [if_neg (fun e => h ((E 119 (by decide)).mpr e))] at hp
  exact hp
theorem w_after {q : Int32} {k : Nat} (hk : k < 127) {post : Int32 → Prop} (hp : post (aft q k)) : wp_X3_after q (nI k) post := by
  unfold aft at hp
  intro w hw
  subst hw
  refine ⟨fun h => ?_, fun h => ?_⟩
  · rw [if_pos h] at hp
    exact w_aLet hk hp
  rw [if_neg h] at hp
  refine ⟨fun h => ?_, fun h => ?_⟩
  · rw [if_pos h] at hp
    exact w_dig (lo := 48) (hi := 53) rfl rfl hk (by decide) (by decide) hp
  rw [if_neg h] at hp
  refine ⟨fun h => ?_, fun h => ?_⟩
  · rw [if_pos h] at hp
    exact w_dig (lo := 48) (hi := 53) rfl rfl hk (by decide) (by decide) hp
  rw [if_neg h] at hp
  refine ⟨fun h => ?_, fun h => ?_⟩
  · rw [if_pos h] at hp
    exact w_dig (lo := 49) (hi := 57) rfl rfl hk (by decide) (by decide) hp
  rw [if_neg h] at hp
  refine ⟨fun h => ?_, fun h => ?_⟩
  · rw [if_pos h] at hp
    exact w_digE (lo := 48) (hi := 57) rfl rfl hk (by decide) (by decide) hp
  rw [if_neg h] at hp
  refine ⟨fun h => ?_, fun h => ?_⟩
  · rw [if_pos h] at hp
    exact w_dig (lo := 48) (hi := 53) rfl rfl hk (by decide) (by decide) hp
  rw [if_neg h] at hp
  refine ⟨fun h => ?_, fun h => ?_⟩
  · rw [if_pos h] at hp
    exact w_dig (lo := 48) (hi := 53) rfl rfl hk (by decide) (by decide) hp
  rw [if_neg h] at hp
  refine ⟨fun h => ?_, fun h => ?_⟩
  · rw [if_pos h] at hp
    exact w_aHr hk hp
  rw [if_neg h] at hp
  refine ⟨fun h => ?_, fun h => ?_⟩
  · rw [if_pos h] at hp
    exact w_digE (lo := 48) (hi := 57) rfl rfl hk (by decide) (by decide) hp
  rw [if_neg h] at hp
  refine ⟨fun h => ?_, fun h => ?_⟩
  · rw [if_pos h] at hp
    exact w_digE (lo := 48) (hi := 51) rfl rfl hk (by decide) (by decide) hp
  rw [if_neg h] at hp
  refine ⟨fun h => ?_, fun h => ?_⟩
  · rw [if_pos h] at hp
    exact w_aEnd hk hp
  rw [if_neg h] at hp
  exact hp
def TxC (σ : CS) (t : Nat → Int32) (l : Nat) : Prop := c_len σ = nI l ∧ ∀ i, i < l → c_codes σ i = t i
theorem w_code {σ : CS} {t : Nat → Int32} {l : Nat} (T : TxC σ t l) (h : Chr t l) (i : Nat) (hi : i < 2147483648) {post : Int32 → Prop} (hp : post (nI (cN t l i))) : wp_X3_code σ (nI i) post := by
  have hl := h.1
  refine ⟨fun q => absurd q (nI_pos (by omega)), fun _ => ?_⟩
  rw [T.1]
  refine ⟨fun q => ?_, fun q => ⟨fun q2 => ?_, fun q2 => ?_⟩⟩
  · have := (nI_leI (by omega) (by omega)).mp q
    rw [cN_ge this] at hp; exact hp
  · have := (nI_leI (a := 60) (by omega) (by omega)).mp q2
    rw [nI_leI (by omega) (by omega)] at q
    exact absurd this (by omega)
  · rw [nI_leI (by omega) (by omega)] at q
    rw [nI_clamp (by omega), T.2 i (by omega), cN_in h (by omega)]
    exact ⟨q_in (by omega) (by decide), hp⟩
/-- the automaton behind i characters -/
def st (t : Nat → Int32) (l : Nat) : Nat → Int32
  | 0 => 0
  | i + 1 => aft (st t l i) (cN t l i)
theorem st_w {t : Nat → Int32} {l i : Nat} (h : st t l i = -1) : ∀ j, st t l (i + j) = -1
  | 0 => h
  | j + 1 => by
    show aft (st t l (i + j)) _ = -1
    rw [st_w h j]; exact aft_w _
theorem st_end {t : Nat → Int32} {l i : Nat} (h : l ≤ i) : st t l (i + 1) = -1 := by
  show aft (st t l i) (cN t l i) = -1
  rw [cN_ge h]; exact aft_nul _
theorem w_firstWrong {σ : CS} {t : Nat → Int32} {l : Nat} (T : TxC σ t l) (h : Chr t l) {post : Int32 → Prop} (hp : ∀ e, e ≤ l → st t l e ≠ -1 → st t l (e + 1) = -1 → post (nI e)) : wp_X3_firstWrong σ post := by
  have hl := h.1
  refine ⟨fun n v1 v2 => ∃ i : Nat, i ≤ l ∧ n = l - i ∧ v2 = nI i ∧ v1 = st t l i ∧ st t l i ≠ -1, ⟨l, 0, Nat.zero_le _, rfl, rfl, rfl, by show (0 : Int32) ≠ -1; decide⟩, ?_⟩
  rintro n v1 v2 ⟨i, hi, rfl, rfl, rfl, hne⟩
  refine ⟨fun h9 => ?_, fun h9 => ?_⟩
  · rw [T.1] at h9
    have e : i = l := Nat.le_antisymm hi ((nI_leI (by omega) (by omega)).mp h9)
    subst e
    rw [T.1]
    exact hp i (Nat.le_refl _) hne (st_end (Nat.le_refl _))
  · rw [T.1, nI_leI (by omega) (by omega)] at h9
    refine w_code T h i (by omega) ?_
    refine w_after (cN_lt h i) ?_
    refine ⟨fun h8 => ?_, fun h8 => ?_⟩
    · intro w hw
      exact ⟨l - (i + 1), by omega, i + 1, by omega, rfl, by rw [hw, nI_1], rfl, h8⟩
    · exact hp i hi hne h8
theorem err_uniq {t : Nat → Int32} {l e e' : Nat} (h1 : st t l e ≠ -1) (h2 : st t l (e + 1) = -1) (h1' : st t l e' ≠ -1) (h2' : st t l (e' + 1) = -1) : e = e' := by
  rcases Nat.lt_trichotomy e e' with q | q | q
  · have := st_w h2 (e' - (e + 1))
    rw [show e + 1 + (e' - (e + 1)) = e' by omega] at this
    exact absurd this h1'
  · exact q
  · have := st_w h2' (e - (e' + 1))
    rw [show e' + 1 + (e - (e' + 1)) = e by omega] at this
    exact absurd this h1
/-- a complete auction may end here -/
def acc (q : Int32) : Prop := q = 10 ∨ q = 4 ∨ q = 8 ∨ q = 9
theorem w_isComplete {σ : CS} {t : Nat → Int32} {l : Nat} (T : TxC σ t l) (h : Chr t l) {post : Int32 → Prop} (h1 : acc (st t l l) → post 1) (h0 : ¬ acc (st t l l) → post 0) : wp_X3_isComplete σ post := by
  have hl := h.1
  refine ⟨fun n v1 v2 => ∃ i : Nat, i ≤ l ∧ n = l - i ∧ v2 = nI i ∧ v1 = st t l i, ⟨l, 0, Nat.zero_le _, rfl, rfl, rfl⟩, ?_⟩
  rintro n v1 v2 ⟨i, hi, rfl, rfl, rfl⟩
  refine ⟨fun h9 => ?_, fun h9 => ?_⟩
  · rw [T.1] at h9
    have e : i = l := Nat.le_antisymm hi ((nI_leI (by omega) (by omega)).mp h9)
    subst e
    refine ⟨fun q => h1 (Or.inl q), fun q1 => ⟨fun q => h1 (Or.inr (Or.inl q)), fun q2 => ⟨fun q => h1 (Or.inr (Or.inr (Or.inl q))), fun q3 => ⟨fun q4 => h0 ?_, fun q => h1 (Or.inr (Or.inr (Or.inr q)))⟩⟩⟩⟩
    rintro (q | q | q | q)
    · exact q1 q
    · exact q2 q
    · exact q3 q
    · exact q4 q
  · rw [T.1, nI_leI (by omega) (by omega)] at h9
    refine w_code T h i (by omega) ?_
    refine w_after (cN_lt h i) ?_
    intro w hw
    exact ⟨l - (i + 1), by omega, i + 1, by omega, rfl, by rw [hw, nI_1], rfl⟩
