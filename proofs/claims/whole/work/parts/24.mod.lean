/-! pure part: the reference's small methods, under the relation -/
theorem msss (σ : MS) (f : Nat → Int32) : m_s (ms_s σ f) = f := rfl
theorem x_of (k n : Nat) : ((15 : Int32) + 5 * nI k) + nI n = nI (15 + 5 * k + n) := by
  rw [show (15 : Int32) = nI 15 from rfl, show (5 : Int32) = nI 5 from rfl, pk_mul, nI_add, nI_add]
theorem x_has (k n : Nat) : ((45 : Int32) + 4 * nI k) + nI n = nI (45 + 4 * k + n) := by
  rw [show (45 : Int32) = nI 45 from rfl, show (4 : Int32) = nI 4 from rfl, pk_mul, nI_add, nI_add]
theorem x_bid (b s : Nat) : ((69 : Int32) + 18 * nI b) + 3 * nI s = nI (69 + 18 * b + 3 * s) := by
  rw [show (69 : Int32) = nI 69 from rfl, show (18 : Int32) = nI 18 from rfl, show (3 : Int32) = nI 3 from rfl, pk_mul, pk_mul, nI_add, nI_add]
theorem m_of {μ : MS} {a w : Int32} (k n : Nat) (h1 : a = nI k) (h2 : w = nI n) (hk : k < 6) (hn : n < 5) {post : Int32 → Prop} (hp : post (m_s μ (15 + 5 * k + n))) : wp_X5_of μ a w post := by
  subst h1; subst h2
  unfold wp_X5_of
  rw [x_of, nI_clamp (by omega)]
  exact ⟨q_in (by omega) (by decide), hp⟩
theorem m_lay {μ : MS} {a w v : Int32} (k n : Nat) (h1 : a = nI k) (h2 : w = nI n) (hk : k < 6) (hn : n < 5) {post : MS → Prop} (hp : post (ms_s μ (upd (m_s μ) (15 + 5 * k + n) v))) : wp_X5_lay μ a w v post := by
  subst h1; subst h2
  unfold wp_X5_lay
  rw [x_of, nI_clamp (by omega)]
  exact ⟨q_in (by omega) (by decide), fun s2 h => by rw [h]; exact hp⟩
theorem m_has {μ : MS} {a w : Int32} (k n : Nat) (h1 : a = nI k) (h2 : w = nI n) (hk : k < 6) (hn : n < 4) {post : Int32 → Prop} (hp : post (m_s μ (45 + 4 * k + n))) : wp_X5_has μ a w post := by
  subst h1; subst h2
  unfold wp_X5_has
  rw [x_has, nI_clamp (by omega)]
  exact ⟨q_in (by omega) (by decide), hp⟩
theorem m_adds {μ : MS} {a w v : Int32} (k n : Nat) (h1 : a = nI k) (h2 : w = nI n) (hk : k < 6) (hn : n < 4) {post : MS → Prop} (hp : post (ms_s μ (upd (m_s μ) (45 + 4 * k + n) (m_s μ (45 + 4 * k + n) + v)))) : wp_X5_adds μ a w v post := by
  subst h1; subst h2
  unfold wp_X5_adds
  rw [x_has, nI_clamp (by omega)]
  exact ⟨q_in (by omega) (by decide), q_in (by omega) (by decide), fun s2 h => by rw [h]; exact hp⟩
theorem m_isBid {μ : MS} (b s : Nat) (hb : b < 6) (hs : s < 6) {post : Int32 → Prop} (h0 : m_s μ (69 + 18 * b + 3 * s) = -1 → post 0) (h1 : ¬ m_s μ (69 + 18 * b + 3 * s) = -1 → post 1) : wp_X5_isBid μ (nI b) (nI s) post := by
  unfold wp_X5_isBid wp_X5_bidAt
  rw [x_bid]
  dsimp only
  rw [nI_clamp (by omega)]
  exact ⟨q_in (by omega) (by decide), h0, h1⟩
theorem bid0 {r t : Nat → Int32} (h : RelB r t) {b s : Nat} (hb : b < 6) (hs : s < 6) : t (69 + 18 * b + 3 * s) = -1 ↔ r (54 + (b * 6 + s)) = 0 := by
  rcases h b s hb hs with ⟨h1, h2⟩ | ⟨h1, h2, h3, _⟩
  · exact ⟨fun _ => h1, fun _ => h2⟩
  · exact ⟨fun e => absurd e h3, fun e => absurd e h1⟩
theorem m_isBidR {m : Nat} {r : Nat → Int32} {μ : MS} (R : Rl m r (m_s μ)) (b s : Nat) (hb : b < 6) (hs : s < 6) {post : Int32 → Prop} (hp : post (hasB r b s)) : wp_X5_isBid μ (nI b) (nI s) post := by
  unfold hasB at hp
  refine m_isBid b s hb hs (fun h => ?_) (fun h => ?_)
  · rw [if_pos ((bid0 R.B hb hs).mp h)] at hp; exact hp
  · rw [if_neg (fun e => h ((bid0 R.B hb hs).mpr e))] at hp; exact hp
theorem m_in0 {p1 p2 p3 : Int32} (h : p1 < p2 ∨ p3 < p1) {post : Int32 → Prop} (hp : post 0) : wp_X5_in p1 p2 p3 post := ⟨fun _ => hp, fun h1 => ⟨fun _ => hp, fun h2 => absurd h (fun h => h.elim h1 h2)⟩⟩
theorem m_in1 {p1 p2 p3 : Int32} (h1 : ¬ p1 < p2) (h2 : ¬ p3 < p1) {post : Int32 → Prop} (hp : post 1) : wp_X5_in p1 p2 p3 post := ⟨fun h => absurd h h1, fun _ => ⟨fun h => absurd h h2, fun _ => hp⟩⟩
theorem m_isOne0 {p : Int32} (h : p < 0 ∨ 5 < p) {post : Int32 → Prop} (hp : post 0) : wp_X5_isOne p post := m_in0 h ⟨by decide, hp⟩
theorem m_isOne1 {p : Int32} (h1 : ¬ p < 0) (h2 : ¬ 5 < p) {post : Int32 → Prop} (hp : post 1) : wp_X5_isOne p post := m_in1 h1 h2 ⟨by decide, hp⟩
theorem m_isOneN (k : Nat) (h : k < 6) {post : Int32 → Prop} (hp : post 1) : wp_X5_isOne (nI k) post := m_isOne1 (nI_pos (by omega)) (nI_nlt (a := 5) (by omega) (by omega)) hp
theorem m_isAmount0 {p : Int32} (h : p < 1 ∨ 99 < p) {post : Int32 → Prop} (hp : post 0) : wp_X5_isAmount p post := m_in0 h ⟨by decide, hp⟩
theorem m_isAmount1 {p : Int32} (h1 : ¬ p < 1) (h2 : ¬ 99 < p) {post : Int32 → Prop} (hp : post 1) : wp_X5_isAmount p post := m_in1 h1 h2 ⟨by decide, hp⟩
theorem m_holds0 {μ : MS} {post : Int32 → MS → Prop} (hp : post 1 (ms_thrown μ 0)) : wp_X5_holds μ 0 post := fun s2 h => ⟨fun h1 => absurd rfl h1, fun _ => by rw [h]; exact hp⟩
theorem m_holdsN {μ : MS} {k : Int32} (hk : ¬ k = 0) {post : Int32 → MS → Prop} (hp : post 0 (ms_thrown μ k)) : wp_X5_holds μ k post := fun s2 h => ⟨fun _ => by rw [h]; exact hp, fun h1 => absurd h1 hk⟩
theorem open1 {m : Nat} {r t : Nat → Int32} (R : Rl m r t) : t 2 = 1 ↔ ¬ r 169 = 0 := by
  rw [R.P _ _ PI_opened]
  rcases R.o1.open01 with e | e
  · rw [e]; exact ⟨fun h => absurd h (by decide), fun h => absurd rfl h⟩
  · rw [e]; exact ⟨fun _ => by decide, fun _ => rfl⟩
theorem cl2 : ((2 : Int32)).toNatClampNeg = 2 := by decide
theorem m_reason {m : Nat} {r : Nat → Int32} {μ : MS} (R : Rl m r (m_s μ)) (b s : Nat) (x : Int32) (hb : b < 6) (hs : s < 6) {post : Int32 → Prop} (hp : post (rWhyN r b s x)) : wp_X5_reason μ (nI b) (nI s) x post := by
  unfold rWhyN at hp
  unfold wp_X5_reason
  rw [cl2]
  refine ⟨fun h => ?_, fun h => ?_⟩
  · have h0 : r 169 = 0 := by
      rcases R.o1.open01 with e | e
      · exact e
      · exact absurd ((open1 R).mpr (by rw [e]; decide)) h
    rw [if_pos h0] at hp
    refine m_isBidR R b s hb hs ?_
    unfold hasB
    by_cases h3 : r (54 + (b * 6 + s)) = 0
    · rw [if_pos h3] at hp ⊢
      refine ⟨fun _ => ?_, fun h9 => absurd rfl h9⟩
      refine m_of s 0 rfl rfl hs (by decide) ?_
      rw [R.P _ _ (PI_price hs)]
      refine ⟨fun h4 => ?_, fun h4 => ?_⟩
      · rw [if_pos h4] at hp
        refine m_has b 0 rfl rfl hb (by decide) ?_
        rw [R.P _ _ (PI_purse hb)]
        exact ⟨fun h5 => by rw [if_pos h5] at hp; exact hp, fun h5 => by rw [if_neg h5] at hp; exact hp⟩
      · rw [if_neg h4] at hp; exact hp
    · rw [if_neg h3] at hp ⊢
      exact ⟨fun h9 => absurd h9 (by decide), fun _ => hp⟩
  · rw [if_neg ((open1 R).mp h)] at hp; exact hp
theorem m_fee {m : Nat} {r : Nat → Int32} {μ : MS} (R : Rl m r (m_s μ)) (b s : Nat) (hb : b < 6) (hs : s < 6) (hbid : ¬ r (54 + (b * 6 + s)) = 0) {post : Int32 → Prop} (hp : post (rFee r b s)) : wp_X5_fee μ (nI b) (nI s) post := by
  unfold wp_X5_fee wp_X5_bidAt
  rw [x_bid]
  dsimp only
  rw [nI_1, nI_clamp (by omega)]
  refine ⟨q_in (by omega) (by decide), ?_⟩
  rcases R.B b s hb hs with ⟨h1, _⟩ | ⟨h1, h2, h3, h4, h5⟩
  · exact absurd h1 hbid
  · rw [h4, show ((12 : Int32)).toNatClampNeg = 12 from by decide, show ((13 : Int32)).toNatClampNeg = 13 from by decide, show ((1 : Int32)).toNatClampNeg = 1 from by decide, R.P _ _ PI_hour, R.P 162 12 (PI_set (k := 0) (by decide)), R.P 163 13 (PI_set (k := 1) (by decide))]
    exact hp
theorem m_whyKept {m : Nat} {r : Nat → Int32} {μ : MS} (R : Rl m r (m_s μ)) (b s : Nat) (hb : b < 6) (hs : s < 6) {post : Int32 → Prop} (hp : post (rWhyW r b s)) : wp_X5_whyKept μ (nI b) (nI s) post := by
  unfold rWhyW at hp
  unfold wp_X5_whyKept
  rw [cl2]
  refine ⟨fun h => ?_, fun h => ?_⟩
  · have h0 : r 169 = 0 := by
      rcases R.o1.open01 with e | e
      · exact e
      · exact absurd ((open1 R).mpr (by rw [e]; decide)) h
    rw [if_pos h0] at hp
    refine m_isBidR R b s hb hs ?_
    unfold hasB
    by_cases h3 : r (54 + (b * 6 + s)) = 0
    · rw [if_pos h3] at hp ⊢
      exact ⟨fun h9 => absurd rfl h9, fun _ => hp⟩
    · rw [if_neg h3] at hp ⊢
      refine ⟨fun _ => ?_, fun h9 => absurd h9 (by decide)⟩
      refine m_has b 0 rfl rfl hb (by decide) ?_
      refine m_fee R b s hb hs h3 ?_
      rw [R.P _ _ (PI_purse hb)]
      exact ⟨fun h5 => by rw [if_pos h5] at hp; exact hp, fun h5 => by rw [if_neg h5] at hp; exact hp⟩
  · rw [if_neg ((open1 R).mp h)] at hp; exact hp
theorem m_canFish {m : Nat} {r : Nat → Int32} {μ : MS} (R : Rl m r (m_s μ)) (s : Nat) (hs : s < 6) {post : Int32 → Prop} (hp : post (rCan r s)) : wp_X5_canFish μ (nI s) post := by
  unfold rCan at hp
  unfold wp_X5_canFish
  rw [cl2]
  refine ⟨fun h => ?_, fun h => ?_⟩
  · have h0 : r 169 = 0 := by
      rcases R.o1.open01 with e | e
      · exact e
      · exact absurd ((open1 R).mpr (by rw [e]; decide)) h
    rw [if_pos h0] at hp; exact hp
  · rw [if_neg ((open1 R).mp h)] at hp
    refine m_of s 2 rfl rfl hs (by decide) ?_
    rw [R.P _ _ (PI_owner hs)]
    exact ⟨fun h5 => by rw [if_pos h5] at hp; exact hp, fun h5 => by rw [if_neg h5] at hp; exact hp⟩
-- deeds: seals, withdraws, pauses
def tSeal (t r : Nat → Int32) (b s : Nat) (x : Int32) : Nat → Int32 := upd (upd (upd (upd (upd t (69 + 18 * b + 3 * s) (sealV r b s x)) (69 + 18 * b + 3 * s + 1) (r 168)) (69 + 18 * b + 3 * s + 2) x) 11 (r 170 + 1)) 9 (r 171 + 1)
theorem m_seals {m : Nat} {r : Nat → Int32} {μ : MS} (R : Rl m r (m_s μ)) (b s : Nat) (x : Int32) (hb : b < 6) (hs : s < 6) {post : Int32 → MS → Prop} (hp : post (sealV r b s x) (ms_s μ (tSeal (m_s μ) r b s x))) : wp_X5_seals μ (nI b) (nI s) x post := by
  unfold wp_X5_seals wp_X5_bidAt
  rw [x_bid]
  refine ⟨q_in (by omega) (by decide), ?_⟩
  intro s2 h2
  refine ⟨by rw [nI_1]; exact q_in (by omega) (by decide), ?_⟩
  intro s3 h3
  refine ⟨by rw [show (2 : Int32) = nI 2 from rfl, nI_add]; exact q_in (by omega) (by decide), ?_⟩
  intro s4 h4 s5 h5 s6 h6
  refine ⟨q_in (by omega) (by decide), ?_⟩
  rw [nI_clamp (by omega)] at h2 ⊢
  rw [nI_1, nI_clamp (by omega)] at h3
  rw [show (2 : Int32) = nI 2 from rfl, nI_add, nI_clamp (by omega)] at h4
  rw [show ((11 : Int32)).toNatClampNeg = 11 from by decide] at h2 h5
  rw [show ((1 : Int32)).toNatClampNeg = 1 from by decide] at h3
  rw [show ((9 : Int32)).toNatClampNeg = 9 from by decide] at h6
  rw [R.P _ _ PI_rank] at h2
  have h2 : s2 = ms_s μ (upd (m_s μ) (69 + 18 * b + 3 * s) (sealV r b s x)) := h2
  subst h2
  have h3 : s3 = ms_s μ (upd (upd (m_s μ) (69 + 18 * b + 3 * s) (sealV r b s x)) (69 + 18 * b + 3 * s + 1) (upd (m_s μ) (69 + 18 * b + 3 * s) (sealV r b s x) 1)) := h3
  rw [pk_un (show 1 ≠ 69 + 18 * b + 3 * s by omega), R.P _ _ PI_hour] at h3
  subst h3
  have h4 : s4 = ms_s μ (upd (upd (upd (m_s μ) (69 + 18 * b + 3 * s) (sealV r b s x)) (69 + 18 * b + 3 * s + 1) (r 168)) (69 + 18 * b + 3 * s + 2) x) := h4
  subst h4
  have h5 : s5 = ms_s μ (upd (upd (upd (upd (m_s μ) (69 + 18 * b + 3 * s) (sealV r b s x)) (69 + 18 * b + 3 * s + 1) (r 168)) (69 + 18 * b + 3 * s + 2) x) 11 (upd (upd (upd (m_s μ) (69 + 18 * b + 3 * s) (sealV r b s x)) (69 + 18 * b + 3 * s + 1) (r 168)) (69 + 18 * b + 3 * s + 2) x 11 + 1)) := h5
  rw [pk_un (show 11 ≠ 69 + 18 * b + 3 * s + 2 by omega), pk_un (show 11 ≠ 69 + 18 * b + 3 * s + 1 by omega), pk_un (show 11 ≠ 69 + 18 * b + 3 * s by omega), R.P _ _ PI_rank] at h5
  subst h5
  have h6 : s6 = ms_s μ (upd (upd (upd (upd (upd (m_s μ) (69 + 18 * b + 3 * s) (sealV r b s x)) (69 + 18 * b + 3 * s + 1) (r 168)) (69 + 18 * b + 3 * s + 2) x) 11 (r 170 + 1)) 9 (upd (upd (upd (upd (m_s μ) (69 + 18 * b + 3 * s) (sealV r b s x)) (69 + 18 * b + 3 * s + 1) (r 168)) (69 + 18 * b + 3 * s + 2) x) 11 (r 170 + 1) 9 + 1)) := h6
  rw [pk_un (show 9 ≠ 11 by decide), pk_un (show 9 ≠ 69 + 18 * b + 3 * s + 2 by omega), pk_un (show 9 ≠ 69 + 18 * b + 3 * s + 1 by omega), pk_un (show 9 ≠ 69 + 18 * b + 3 * s by omega), R.P _ _ PI_sealed] at h6
  subst h6
  have e : m_s (ms_s μ (upd (upd (upd (upd (upd (m_s μ) (69 + 18 * b + 3 * s) (sealV r b s x)) (69 + 18 * b + 3 * s + 1) (r 168)) (69 + 18 * b + 3 * s + 2) x) 11 (r 170 + 1)) 9 (r 171 + 1))) (69 + 18 * b + 3 * s) = sealV r b s x := by
    show upd (upd (upd (upd (upd (m_s μ) _ _) _ _) _ _) 11 _) 9 _ (69 + 18 * b + 3 * s) = _
    rw [pk_un (by omega), pk_un (by omega), pk_un (by omega), pk_un (by omega), pk_us]
  rw [e]
  exact hp
def tTake (t r : Nat → Int32) (b s : Nat) : Nat → Int32 := upd (upd (upd (upd (upd (upd t (69 + 18 * b + 3 * s) (-1)) (45 + 4 * b + 0) (r (30 + b) + -(rFee r b s))) 3 (r 165 + rFee r b s)) (45 + 4 * b + 3) (r (48 + b) + rFee r b s)) 5 (t 5 + rFee r b s)) 10 (r 172 + 1)
theorem m_withdraws {m : Nat} {r : Nat → Int32} {μ : MS} (R : Rl m r (m_s μ)) (b s : Nat) (hb : b < 6) (hs : s < 6) (hbid : ¬ r (54 + (b * 6 + s)) = 0) {post : Int32 → MS → Prop} (hp : post (rFee r b s) (ms_s μ (tTake (m_s μ) r b s))) : wp_X5_withdraws μ (nI b) (nI s) post := by
  refine m_fee R b s hb hs hbid ?_
  refine m_adds b 0 rfl rfl hb (by decide) ?_
  refine m_adds b 3 rfl rfl hb (by decide) ?_
  intro s4 h4 s5 h5 s6 h6
  unfold wp_X5_bidAt
  rw [x_bid]
  refine ⟨q_in (by omega) (by decide), ?_⟩
  intro s8 h8
  rw [nI_clamp (by omega)] at h8
  rw [show ((3 : Int32)).toNatClampNeg = 3 from by decide] at h4
  rw [show ((5 : Int32)).toNatClampNeg = 5 from by decide] at h5
  rw [show ((10 : Int32)).toNatClampNeg = 10 from by decide] at h6
  have hF : ∀ F : Int32, F = rFee r b s → s8 = ms_s μ (upd (upd (upd (upd (upd (upd (m_s μ) (45 + 4 * b + 0) (m_s μ (45 + 4 * b + 0) + -F)) (45 + 4 * b + 3) (upd (m_s μ) (45 + 4 * b + 0) (m_s μ (45 + 4 * b + 0) + -F) (45 + 4 * b + 3) + F)) 3 (upd (upd (m_s μ) (45 + 4 * b + 0) (m_s μ (45 + 4 * b + 0) + -F)) (45 + 4 * b + 3) (upd (m_s μ) (45 + 4 * b + 0) (m_s μ (45 + 4 * b + 0) + -F) (45 + 4 * b + 3) + F) 3 + F)) 5 (upd (upd (upd (m_s μ) (45 + 4 * b + 0) (m_s μ (45 + 4 * b + 0) + -F)) (45 + 4 * b + 3) (upd (m_s μ) (45 + 4 * b + 0) (m_s μ (45 + 4 * b + 0) + -F) (45 + 4 * b + 3) + F)) 3 (upd (upd (m_s μ) (45 + 4 * b + 0) (m_s μ (45 + 4 * b + 0) + -F)) (45 + 4 * b + 3) (upd (m_s μ) (45 + 4 * b + 0) (m_s μ (45 + 4 * b + 0) + -F) (45 + 4 * b + 3) + F) 3 + F) 5 + F)) 10 (m_s s5 10 + 1)) (69 + 18 * b + 3 * s) (-1)) → s8 = ms_s μ (tTake (m_s μ) r b s) := by
    intro F hF h
    have e10 : m_s s5 10 = r 172 := by
      rw [h5, h4]
      simp only [msss]
      rw [pk_un (by decide), pk_un (by decide), pk_un (by omega), pk_un (by omega), R.P _ _ PI_withdrawn]
    rw [e10, hF, pk_un (show 45 + 4 * b + 3 ≠ 45 + 4 * b + 0 by omega), pk_un (show 5 ≠ 3 by decide), pk_un (show 5 ≠ 45 + 4 * b + 3 by omega), pk_un (show 5 ≠ 45 + 4 * b + 0 by omega), pk_un (show 3 ≠ 45 + 4 * b + 3 by omega), pk_un (show 3 ≠ 45 + 4 * b + 0 by omega), R.P _ _ (PI_purse hb), R.P _ _ (PI_fees hb), R.P _ _ PI_chest] at h
    rw [h]
    congr 1
    unfold tTake
    rw [upd_comm (i := 45 + 4 * b + 3) (j := 3) (by omega), upd_comm (i := 10) (by omega), upd_comm (i := 5) (j := 69 + 18 * b + 3 * s) (by omega), upd_comm (i := 45 + 4 * b + 3) (j := 69 + 18 * b + 3 * s) (by omega), upd_comm (i := 3) (j := 69 + 18 * b + 3 * s) (by omega), upd_comm (i := 45 + 4 * b + 0) (j := 69 + 18 * b + 3 * s) (by omega)]
  rw [hF (rFee r b s) rfl (by rw [h8, h6, h5, h4]; rfl)]
  exact hp
theorem m_pauses {m : Nat} {r : Nat → Int32} {μ : MS} (R : Rl m r (m_s μ)) (x : Int32) {post : Int32 → MS → Prop} (hp : post (rHour r x) (ms_s μ (upd (m_s μ) 1 (rHour r x)))) : wp_X5_pauses μ x post := by
  intro v hv
  rw [show ((1 : Int32)).toNatClampNeg = 1 from by decide, R.P _ _ PI_hour] at hv
  unfold rHour at hp
  rw [← hv] at hp
  have key : ∀ w : Int32, (∀ s2 : MS, s2 = ms_s μ (upd (m_s μ) ((1 : Int32)).toNatClampNeg w) → (post w (ms_s μ (upd (m_s μ) 1 w))) → post (m_s s2 ((1 : Int32)).toNatClampNeg) s2) := by
    intro w s2 h2 h
    rw [show ((1 : Int32)).toNatClampNeg = 1 from by decide] at h2 ⊢
    rw [h2]
    show post (upd (m_s μ) 1 w 1) _
    rw [pk_us]; exact h
  refine ⟨fun h => ?_, fun h => ?_⟩
  · intro s2 h2
    refine key v s2 h2 ?_
    by_cases h3 : v < 23
    · rw [if_pos h3] at hp; exact hp
    · rw [if_neg h3] at hp
      have e : v = 23 := Int32.toInt_inj.mp (by rw [tI_lt] at h3; rw [tI_le] at h; omega)
      rw [e] at *
      exact hp
  · intro s2 h2
    refine key 23 s2 h2 ?_
    have h3 : ¬ v < 23 := by rw [tI_lt]; rw [tI_le] at h; omega
    rw [if_neg h3] at hp; exact hp
