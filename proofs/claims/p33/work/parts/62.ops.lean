/-! pure part: the calls that change a state, told by its row -/
def After (σ σ1 : CS) (r' : Nat → Int32) (n : Nat) : Prop := c_row σ1 = r' ∧ c_saved σ1 = nI ((if n = 6 then 5 else n) + 1) ∧ (∀ j, j < 174 → c_rows σ1 ((if n = 6 then 5 else n) * 174 + j) = c_row σ j) ∧ c_snap σ1 = c_snap σ ∧ c_taken σ1 = c_taken σ
theorem saveC_row (σ : CS) (n : Nat) : c_row (saveC σ n) = c_row σ := by
  unfold saveC
  by_cases h : n = 6
  · rw [if_pos h]; rfl
  · rw [if_neg h]; rfl
theorem saveC_snap (σ : CS) (n : Nat) : c_snap (saveC σ n) = c_snap σ := by
  unfold saveC
  by_cases h : n = 6
  · rw [if_pos h]; rfl
  · rw [if_neg h]; rfl
theorem saveC_taken (σ : CS) (n : Nat) : c_taken (saveC σ n) = c_taken σ := by
  unfold saveC
  by_cases h : n = 6
  · rw [if_pos h]; rfl
  · rw [if_neg h]; rfl
theorem saveC_saved (σ : CS) (n : Nat) : c_saved (saveC σ n) = nI ((if n = 6 then 5 else n) + 1) := by
  unfold saveC
  by_cases h : n = 6
  · rw [if_pos h, if_pos h]; rfl
  · rw [if_neg h, if_neg h]; rfl
theorem saveC_rows (σ : CS) (n j : Nat) (hj : j < 174) : c_rows (saveC σ n) ((if n = 6 then 5 else n) * 174 + j) = c_row σ j := by
  unfold saveC
  by_cases h : n = 6
  · rw [if_pos h, if_pos h]
    show cpyF (dropF (c_rows σ) 870) (c_row σ) 870 0 174 (5 * 174 + j) = _
    rw [cpyF_in (by omega) (by omega)]
    exact congrArg _ (by omega)
  · rw [if_neg h, if_neg h]
    show cpyF (c_rows σ) (c_row σ) (n * 174) 0 174 (n * 174 + j) = _
    rw [cpyF_in (by omega) (by omega)]
    exact congrArg _ (by omega)
theorem After.of {σ σ1 : CS} {r' : Nat → Int32} {n : Nat} (h1 : c_row σ1 = r') (h2 : c_rows σ1 = c_rows (saveC σ n)) (h3 : c_saved σ1 = c_saved (saveC σ n)) (h4 : c_snap σ1 = c_snap (saveC σ n)) (h5 : c_taken σ1 = c_taken (saveC σ n)) : After σ σ1 r' n :=
  ⟨h1, h3.trans (saveC_saved σ n), fun j hj => by rw [h2]; exact saveC_rows σ n j hj, h4.trans (saveC_snap σ n), h5.trans (saveC_taken σ n)⟩
section
variable {m n : Nat} {σ : CS} {post : Int32 → CS → Prop} {px : String → Prop}
theorem W_price (hn : n ≤ 6) (hs : c_saved σ = nI n) {k : Nat} (hk : k < 6) {v : Int32} (h1 : ¬ v < 0) (h2 : v ≤ 99) (hp : ∀ σ1, After σ σ1 (upd (c_row σ) k v) n → post (c_row σ k) σ1) : wp_X4_price σ (nI k) v post px := by
  unfold wp_X4_price
  refine cP_N rfl hk (by decide) ?_
  refine cR_ok h1 h2 ?_
  refine w_save n hn hs ?_
  refine w_get 0 k rfl rfl (by omega) ?_
  refine w_put 0 k rfl rfl (by omega) ?_
  rw [Nat.zero_add, saveC_row]
  exact hp _ (After.of rfl rfl rfl rfl rfl)
theorem W_pay (hn : n ≤ 6) (hs : c_saved σ = nI n) {k : Nat} (hk : k < 6) {x : Int32} (h1 : ¬ x < 1) (h2 : x ≤ 99) (h3 : c_row σ 166 + x ≤ 9999) (hp : ∀ σ1, After σ σ1 (upd (upd (c_row σ) 166 (c_row σ 166 + x)) (30 + k) (c_row σ (30 + k) + x)) n → post (c_row σ (30 + k) + x) σ1) : wp_X4_pay σ (nI k) x post px := by
  unfold wp_X4_pay
  refine cP_N rfl hk (by decide) ?_
  refine cR_ok h1 h2 ?_
  refine w_get_ 166 rfl (by decide) ?_
  refine ⟨fun h => absurd h3 (fun q => absurd h (rgn q)), fun _ => cS_1 ?_⟩
  refine w_save n hn hs ?_
  have hp := hp (cs_row (saveC σ n) (upd (upd (c_row σ) 166 (c_row σ 166 + x)) (30 + k) (c_row σ (30 + k) + x))) (After.of rfl rfl rfl rfl rfl)
  rw [← saveC_row σ n] at hp
  generalize saveC σ n = σ2 at *
  refine w_add 166 0 rfl rfl (by decide) ?_
  refine w_add 30 k rfl rfl (by omega) ?_
  refine w_get 30 k rfl rfl (by omega) ?_
  have e1 : c_row (cs_row (cs_row σ2 (upd (c_row σ2) (166 + 0) (c_row σ2 (166 + 0) + x))) (upd (c_row (cs_row σ2 (upd (c_row σ2) (166 + 0) (c_row σ2 (166 + 0) + x)))) (30 + k) (c_row (cs_row σ2 (upd (c_row σ2) (166 + 0) (c_row σ2 (166 + 0) + x))) (30 + k) + x))) (30 + k) = c_row σ2 (30 + k) + x := by
    show upd (upd (c_row σ2) (166 + 0) _) (30 + k) (upd (c_row σ2) (166 + 0) _ (30 + k) + x) (30 + k) = _
    rw [pk_us, pk_un (by omega)]
  have e2 : cs_row (cs_row σ2 (upd (c_row σ2) (166 + 0) (c_row σ2 (166 + 0) + x))) (upd (c_row (cs_row σ2 (upd (c_row σ2) (166 + 0) (c_row σ2 (166 + 0) + x)))) (30 + k) (c_row (cs_row σ2 (upd (c_row σ2) (166 + 0) (c_row σ2 (166 + 0) + x))) (30 + k) + x)) = cs_row σ2 (upd (upd (c_row σ2) 166 (c_row σ2 166 + x)) (30 + k) (c_row σ2 (30 + k) + x)) := by
    show cs_row σ2 (upd (upd (c_row σ2) (166 + 0) (c_row σ2 (166 + 0) + x)) (30 + k) (upd (c_row σ2) (166 + 0) (c_row σ2 (166 + 0) + x) (30 + k) + x)) = _
    rw [pk_un (show 30 + k ≠ 166 + 0 by omega)]
  rw [e1, e2]
  exact hp
theorem W_set (hn : n ≤ 6) (hs : c_saved σ = nI n) {k : Nat} (hk : k < 3) {x : Int32} (h1 : ¬ x < 0) (h2 : k = 0 → x ≤ 20) (h3 : k = 1 → x ≤ 9) (h4 : k = 2 → x ≤ 50) (hp : ∀ σ1, After σ σ1 (upd (c_row σ) (162 + k) x) n → post (c_row σ (162 + k)) σ1) : wp_X4_set σ (nI k) x post px := by
  unfold wp_X4_set
  refine cP_N (n := 3) rfl hk (by decide) ?_
  intro w hw
  subst hw
  have fin : wp_X0_save σ (fun σ_3 => wp_X2_get σ_3 162 (nI k) (fun r_4 => wp_X2_put σ_3 162 (nI k) x (fun σ_6 => post r_4 σ_6))) := by
    refine w_save n hn hs ?_
    refine w_get 162 k rfl rfl (by omega) ?_
    refine w_put 162 k rfl rfl (by omega) ?_
    rw [saveC_row]
    exact hp _ (After.of rfl rfl rfl rfl rfl)
  refine ⟨fun h => ?_, fun h => ⟨fun q => ?_, fun q => ?_⟩⟩
  · have ek : k = 0 := (nI_eq (b := 0) (by omega) (by omega)).mp h
    refine cR_ok h1 (h2 ek) fin
  · have ek : k = 1 := (nI_eq (b := 1) (by omega) (by omega)).mp q
    refine cR_ok h1 (h3 ek) fin
  · have ek0 : k ≠ 0 := fun z => h (by rw [z]; rfl)
    have ek1 : k ≠ 1 := fun z => q (by rw [z]; rfl)
    refine cR_ok h1 (h4 (by omega)) fin
theorem W_bid (hn : n ≤ 6) (hs : c_saved σ = nI n) {b s : Nat} (hb : b < 6) (hs6 : s < 6) {x : Int32} (h1 : ¬ x < 1) (h2 : x ≤ 99) (h0 : rWhyN (c_row σ) b s x = 0) (hp : ∀ σ1, After σ σ1 (rSeal (c_row σ) b s x) n → post (sealV (c_row σ) b s x) σ1) : wp_X4_bid σ (nI b) (nI s) x post px := by
  unfold wp_X4_bid
  refine cP_N rfl hb (by decide) ?_
  refine cP_N rfl hs6 (by decide) ?_
  refine cR_ok h1 h2 ?_
  refine w_whyNotSealed b s x hb hs6 ?_
  refine ⟨fun h => absurd h0 h, fun _ => cS_1 ?_⟩
  refine w_save n hn hs ?_
  refine w_sealBid b s x hb hs6 ?_
  rw [saveC_row]
  exact hp _ (After.of rfl rfl rfl rfl rfl)
theorem W_withdraw (hn : n ≤ 6) (hs : c_saved σ = nI n) {b s : Nat} (hb : b < 6) (hs6 : s < 6) (h0 : rWhyW (c_row σ) b s = 0) (hp : ∀ σ1, After σ σ1 (rTake (c_row σ) b s) n → post (rFee (c_row σ) b s) σ1) : wp_X4_withdraw σ (nI b) (nI s) post px := by
  unfold wp_X4_withdraw
  refine cP_N rfl hb (by decide) ?_
  refine cP_N rfl hs6 (by decide) ?_
  refine w_whyNotWithdrawn b s hb hs6 ?_
  refine ⟨fun h => absurd h0 h, fun _ => cS_1 ?_⟩
  refine w_save n hn hs ?_
  refine w_takeBack b s hb hs6 ?_
  rw [saveC_row]
  exact hp _ (After.of rfl rfl rfl rfl rfl)
theorem W_pause (hn : n ≤ 6) (hs : c_saved σ = nI n) {x : Int32} (h1 : ¬ x < 1) (h2 : x ≤ 23) (hp : ∀ σ1, After σ σ1 (upd (c_row σ) 168 (rHour (c_row σ) x)) n → post (rHour (c_row σ) x) σ1) : wp_X4_pause σ x post px := by
  unfold wp_X4_pause
  refine cR_ok h1 h2 ?_
  refine w_save n hn hs ?_
  refine w_passHours x ?_
  rw [saveC_row]
  exact hp _ (After.of rfl rfl rfl rfl rfl)
theorem W_open (hn : n ≤ 6) (hs : c_saved σ = nI n) (h1 : O1 m (c_row σ)) (h0 : c_row σ 169 = 0) (hp : ∀ σ1, After σ σ1 (gF (c_row σ) (BC (c_row σ)) 6) n → post (nI (cntF (BC (c_row σ)) 6)) σ1) : wp_X4_open σ post px := by
  unfold wp_X4_open
  refine w_isOpened (fun _ => ⟨fun h => absurd rfl h, fun _ => cS_1 ?_⟩) (fun h => absurd h0 h)
  refine w_save n hn hs ?_
  refine w_shareOut (m := m) (by rw [saveC_row]; exact h1) (fun f2 g2 => ?_)
  rw [saveC_row]
  exact hp _ (After.of rfl rfl rfl rfl rfl)
theorem W_fish (hn : n ≤ 6) (hs : c_saved σ = nI n) {s w : Nat} (hs6 : s < 6) (hw : w < 6) (h9 : ¬ c_row σ 169 = 0) (ho : c_row σ (12 + s) = nI w) (hp : ∀ σ1, After σ σ1 (rFish (c_row σ) s w) n → post (haulV (c_row σ) s) σ1) : wp_X4_fish σ (nI s) post px := by
  unfold wp_X4_fish
  refine cP_N rfl hs6 (by decide) ?_
  refine w_canFish s hs6 ?_
  have e : rCan (c_row σ) s = 1 := by
    unfold rCan
    rw [if_neg h9, if_neg (by rw [ho]; exact nI_m1 (by omega))]
  rw [e]
  refine cS_1 ?_
  refine w_save n hn hs ?_
  refine w_catchFish s w hs6 hw (by rw [saveC_row]; exact ho) ?_
  rw [saveC_row]
  exact hp _ (After.of rfl rfl rfl rfl rfl)
theorem W_nextDay (hn : n ≤ 6) (hs : c_saved σ = nI n) (hp : ∀ σ1, After σ σ1 (rDay (c_row σ)) n → post (sumG (moreV (c_row σ)) 6) σ1) : wp_X4_nextDay σ post := by
  unfold wp_X4_nextDay
  refine w_save n hn hs ?_
  refine w_beginDay ?_
  rw [saveC_row]
  exact hp _ (After.of rfl rfl rfl rfl rfl)
theorem W_goBack (hn : n ≤ 6) (hs : c_saved σ = nI n) (h0 : c_taken σ = 1) (hp : ∀ σ1, After σ σ1 (cpyF (c_row σ) (c_snap σ) 0 0 174) n → post (c_snap σ 165) σ1) : wp_X4_goBack σ post px := by
  unfold wp_X4_goBack
  refine ⟨by rw [h0]; rfl, ?_⟩
  rw [h0]
  refine cS_1 ?_
  refine w_save n hn hs ?_
  refine w_copyFrom_s ?_
  refine w_get_ 165 rfl (by decide) ?_
  have e : c_row (cs_row (saveC σ n) (cpyF (c_row (saveC σ n)) (c_snap (saveC σ n)) 0 0 174)) 165 = c_snap σ 165 := by
    show cpyF (c_row (saveC σ n)) (c_snap (saveC σ n)) 0 0 174 165 = _
    exact (cpyF_in (by omega) (by omega)).trans (congrFun (saveC_snap σ n) 165)
  rw [e]
  refine hp _ (After.of ?_ rfl rfl rfl rfl)
  show cpyF (c_row (saveC σ n)) (c_snap (saveC σ n)) 0 0 174 = _
  rw [saveC_row, saveC_snap]
theorem W_keep (hp : ∀ σ1, c_row σ1 = c_row σ → c_saved σ1 = c_saved σ → c_rows σ1 = c_rows σ → c_snap σ1 = cpyF (c_snap σ) (c_row σ) 0 0 174 → c_taken σ1 = 1 → post (c_row σ 165) σ1) : wp_X4_keep σ post := by
  unfold wp_X4_keep wp_X0_takeSnapshot
  refine w_copyTo_s ?_
  intro s2 h2
  subst h2
  refine w_get_ 165 rfl (by decide) ?_
  exact hp _ rfl rfl rfl rfl rfl
theorem W_undo {k : Nat} (hk : k < 6) (hs : c_saved σ = nI (k + 1)) (hp : ∀ σ1, c_row σ1 = cpyF (c_row σ) (c_rows σ) 0 (k * 174) 174 → c_saved σ1 = nI k → c_snap σ1 = c_snap σ → c_taken σ1 = c_taken σ → post (nI k) σ1) : wp_X4_undo σ post px := by
  have hpos : ¬ nI (k + 1) ≤ 0 := nI_nle (by omega) (by omega)
  unfold wp_X4_undo wp_X0_savedStates
  rw [hs]
  refine ⟨fun h => absurd h hpos, fun _ => cS_1 ?_⟩
  refine w_restoreLatest k hk hs ?_
  exact hp _ rfl rfl rfl rfl
-- looks
theorem W_why {post : Int32 → Prop} {b s : Nat} (hb : b < 6) (hs6 : s < 6) {x : Int32} (h1 : ¬ x < 1) (h2 : x ≤ 99) (hp : post (rWhyN (c_row σ) b s x)) : wp_X4_why σ (nI b) (nI s) x post px := by
  unfold wp_X4_why
  refine cP_N rfl hb (by decide) ?_
  refine cP_N rfl hs6 (by decide) ?_
  refine cR_ok h1 h2 ?_
  exact w_whyNotSealed b s x hb hs6 hp
theorem W_worth (h1 : O1 m (c_row σ)) {w k : Nat} (hw : w ≤ 6) (hk : k ≤ 1) (hp : KeyM σ (post (nI (WV (BC (c_row σ)) w / 8)))) : wp_X4_worth σ (nI w) (nI k) post px := by
  unfold wp_X4_worth
  refine cR_N (n := 6) rfl hw (by decide) ?_
  refine cR_N (n := 1) rfl hk (by decide) ?_
  refine w_findSharing h1 (fun g1 g2 H => ?_)
  have hB := BC_le h1
  refine ⟨fun _ => ?_, fun _ => ?_⟩
  · exact w_worthWV hB H w hw (hp g1 g2)
  · exact w_worthByTrying hB (BC_81 _) H.1 w hw (hp g1 g2)
theorem W_ifOpened (h1 : O1 m (c_row σ)) {s k : Nat} (hs6 : s < 6) (hk : k ≤ 1) (hp : KeyM σ (post (if nI k = 0 then ownV (BC (c_row σ)) s else dueV (c_row σ) (BC (c_row σ)) s))) : wp_X4_ifOpened σ (nI s) (nI k) post px := by
  unfold wp_X4_ifOpened
  refine cP_N rfl hs6 (by decide) ?_
  refine cR_N (n := 1) rfl hk (by decide) ?_
  refine w_findSharing h1 (fun g1 g2 H => ?_)
  have hB := BC_le h1
  have hp := hp g1 g2
  refine ⟨fun hne => ?_, fun he => ?_⟩
  · rw [if_neg hne] at hp
    exact w_priceOf hB H s hs6 hp
  · rw [if_pos he] at hp
    exact w_ownerOf hB H s hs6 hp
theorem W_ifBid (h1 : O1 m (c_row σ)) {b s k : Nat} (hb : b < 6) (hs6 : s < 6) {x : Int32} (hx1 : ¬ x < 1) (hx2 : x ≤ 99) (hk : k ≤ 1) (hp : KeyM σ (post (bidV (c_row σ) (BQ (c_row σ) b s x) b (nI k)))) : wp_X4_ifBid σ (nI b) (nI s) x (nI k) post px := by
  unfold wp_X4_ifBid
  refine cP_N rfl hb (by decide) ?_
  refine cP_N rfl hs6 (by decide) ?_
  refine cR_ok hx1 hx2 ?_
  have hbt := rgt hx1 hx2
  rw [tI1, show (99 : Int32).toInt = 99 from by decide] at hbt
  refine cR_N (n := 1) rfl hk (by decide) ?_
  exact w_ifBidV h1 b s x (nI k) hb hs6 (by omega) hbt.2 hp
theorem W_least (h1 : O1 m (c_row σ)) {b s : Nat} (hb : b < 6) (hs6 : s < 6) (hp : KeyM σ (post (leastF (winsP (c_row σ) b s) 99 1))) : wp_X4_least σ (nI b) (nI s) post px := by
  unfold wp_X4_least
  refine cP_N rfl hb (by decide) ?_
  refine cP_N rfl hs6 (by decide) ?_
  exact w_least h1 b s hb hs6 hp
end
