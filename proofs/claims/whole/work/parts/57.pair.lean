/-! both fields side by side: dn, at_, wd, nt the class's, f the model's row -/
def SP (W H P : Nat) (rk : Int64) (kd_ : Nat → Int32) (dn at_ : Nat → Int32) (wd nt : Int32) (f : Nat → Int32) : Prop :=
  (∀ c, c < 49 → ∃ k, k ≤ 9 ∧ dn c = nI k) ∧ (∀ c, c < 49 → (W * H ≤ c ∨ bs rk c = true) → dn c = 0) ∧ (∀ p, p < 7 → at_ p = -1 ∨ (p < P ∧ ∃ c k, c < W * H ∧ k < 5 ∧ at_ p = nI c ∧ kd_ p = nI k ∧ ¬ shpM W H k c = 0 ∧ shpM W H k c &&& rk = 0)) ∧ (∃ k, k ≤ 4 ∧ wd = nI k) ∧ (∀ c, c < 49 → f c = dn c) ∧ (∀ p, p < 7 → f (49 + p) = at_ p) ∧ f 56 = nt ∧ f 57 = wd
section SPS
variable {W H P : Nat} {rk : Int64} {kd_ dn at_ f : Nat → Int32} {wd nt : Int32}
theorem SP.lf (h : SP W H P rk kd_ dn at_ wd nt f) : LF at_ (W * H) := fun p hp => by
  rcases h.2.2.1 p hp with e | ⟨_, c, k, c1, _, c2, _⟩
  · exact Or.inl e
  · exact Or.inr ⟨c, c1, c2⟩
theorem SP.lfm (h : SP W H P rk kd_ dn at_ wd nt f) : LF (atM f) (W * H) := fun p hp => by
  have e : atM f p = at_ p := h.2.2.2.2.2.1 p hp
  rw [e]
  exact h.lf p hp
theorem SP.dnE (h : SP W H P rk kd_ dn at_ wd nt f) (h49 : W * H ≤ 49) {x : Int32} (hx : ¬ x ≤ 0) : dnS f x (W * H) = dnS dn x 49 := by
  apply mk_congr
  intro i hi
  by_cases h1 : i < W * H
  · rw [h.2.2.2.2.1 i (by omega), decide_eq_true h1, decide_eq_true (show i < 49 by omega)]
  · rw [decide_eq_false h1]
    by_cases h2 : i < 49
    · rw [h.2.1 i h2 (Or.inl (by omega)), decide_eq_false hx, Bool.and_false]
      rfl
    · rw [decide_eq_false h2, Bool.false_and, Bool.false_and]
theorem SP.dnF (h : SP W H P rk kd_ dn at_ wd nt f) (x : Int32) : dnS f x 49 = dnS dn x 49 := by
  apply mk_congr
  intro i hi
  by_cases h2 : i < 49
  · rw [h.2.2.2.2.1 i h2]
  · rw [decide_eq_false h2, Bool.false_and, Bool.false_and]
theorem SP.wi (h : SP W H P rk kd_ dn at_ wd nt f) (h49 : W * H ≤ 49) {x : Int32} (hx : ¬ x ≤ 0) : WI (dnS dn x 49) (W * H) := by
  rw [← h.dnE h49 hx]
  exact WI_dn _ _ _
theorem SP.rk0 (h : SP W H P rk kd_ dn at_ wd nt f) {x : Int32} (hx : ¬ x ≤ 0) {c : Nat} (hc : bs (dnS dn x 49) c = true) : bs rk c = false := by
  have h6 := bs_lt hc
  unfold dnS at hc
  rw [bs_mk _ h6] at hc
  obtain ⟨a, b⟩ := andE hc
  have a1 := of_decide_eq_true a
  have b1 := of_decide_eq_true b
  cases hb : bs rk c with
  | false => rfl
  | true =>
    rw [h.2.1 c a1 (Or.inr hb)] at b1
    exact absurd b1 hx
theorem SP_gen (h : SP W H P rk kd_ dn at_ wd nt f) {dn2 f2 : Nat → Int32} (h1 : ∀ c, c < 49 → ∃ k, k ≤ 9 ∧ dn2 c = nI k) (h2 : ∀ c, c < 49 → (W * H ≤ c ∨ bs rk c = true) → dn2 c = 0) (h3 : ∀ c, c < 49 → f2 c = dn2 c) (h4 : ∀ j, 49 ≤ j → f2 j = f j) : SP W H P rk kd_ dn2 at_ wd nt f2 := by
  obtain ⟨a1, a2, a3, a4, a5, a6, a7, a8⟩ := h
  exact ⟨h1, h2, a3, a4, h3, fun p hp => (h4 _ (by omega)).trans (a6 p hp), (h4 _ (by omega)).trans a7, (h4 _ (by omega)).trans a8⟩
theorem SP_congr (h : SP W H P rk kd_ dn at_ wd nt f) {dn2 at2 f2 : Nat → Int32} {wd2 nt2 : Int32} (h1 : ∀ c, c < 49 → dn2 c = dn c) (h2 : ∀ p, p < 7 → at2 p = at_ p) (hw : wd2 = wd) (hn : nt2 = nt) (h3 : ∀ q, q < 58 → f2 q = f q) : SP W H P rk kd_ dn2 at2 wd2 nt2 f2 := by
  obtain ⟨a1, a2, a3, a4, a5, a6, a7, a8⟩ := h
  subst hw; subst hn
  refine ⟨fun c hc => by rw [h1 c hc]; exact a1 c hc, fun c hc => by rw [h1 c hc]; exact a2 c hc, fun p hp => by rw [h2 p hp]; exact a3 p hp, a4, fun c hc => by rw [h3 c (by omega), h1 c hc]; exact a5 c hc, fun p hp => by rw [h3 _ (by omega), h2 p hp]; exact a6 p hp, by rw [h3 _ (by omega)]; exact a7, by rw [h3 _ (by omega)]; exact a8⟩
theorem SP_rise (h : SP W H P rk kd_ dn at_ wd nt f) {p : Nat} (hp : p < 7) : SP W H P rk kd_ dn (upd at_ p (-1)) wd nt (upd f (49 + p) (-1)) := by
  obtain ⟨a1, a2, a3, a4, a5, a6, a7, a8⟩ := h
  refine ⟨a1, a2, fun q hq => ?_, a4, fun c hc => by rw [pk_un (by omega)]; exact a5 c hc, fun q hq => ?_, by rw [pk_un (by omega)]; exact a7, by rw [pk_un (by omega)]; exact a8⟩
  · by_cases e : q = p
    · subst e
      exact Or.inl pk_us
    · rw [pk_un e]
      exact a3 q hq
  · by_cases e : q = p
    · subst e
      rw [pk_us, pk_us]
    · rw [pk_un e, pk_un (by omega)]
      exact a6 q hq
theorem SP_at (h : SP W H P rk kd_ dn at_ wd nt f) {p c k : Nat} (hp : p < 7) (hpP : p < P) (hc : c < W * H) (hk : k < 5) (ek : kd_ p = nI k) (s1 : ¬ shpM W H k c = 0) (s2 : shpM W H k c &&& rk = 0) : SP W H P rk kd_ dn (upd at_ p (nI c)) wd nt (upd f (49 + p) (nI c)) := by
  obtain ⟨a1, a2, a3, a4, a5, a6, a7, a8⟩ := h
  refine ⟨a1, a2, fun q hq => ?_, a4, fun c hc => by rw [pk_un (by omega)]; exact a5 c hc, fun q hq => ?_, by rw [pk_un (by omega)]; exact a7, by rw [pk_un (by omega)]; exact a8⟩
  · by_cases e : q = p
    · subst e
      exact Or.inr ⟨hpP, c, k, hc, hk, pk_us, ek, s1, s2⟩
    · rw [pk_un e]
      exact a3 q hq
  · by_cases e : q = p
    · subst e
      rw [pk_us, pk_us]
    · rw [pk_un e, pk_un (by omega)]
      exact a6 q hq
theorem SP_wd (h : SP W H P rk kd_ dn at_ wd nt f) {k : Nat} (hk : k ≤ 4) : SP W H P rk kd_ dn at_ (nI k) nt (upd f 57 (nI k)) := by
  obtain ⟨a1, a2, a3, a4, a5, a6, a7, a8⟩ := h
  exact ⟨a1, a2, a3, ⟨k, hk, rfl⟩, fun c hc => by rw [pk_un (by omega)]; exact a5 c hc, fun q hq => by rw [pk_un (by omega)]; exact a6 q hq, by rw [pk_un (by omega)]; exact a7, pk_us⟩
theorem SP_nt (h : SP W H P rk kd_ dn at_ wd nt f) (x : Int32) : SP W H P rk kd_ dn at_ wd x (upd f 56 x) := by
  obtain ⟨a1, a2, a3, a4, a5, a6, a7, a8⟩ := h
  exact ⟨a1, a2, a3, a4, fun c hc => by rw [pk_un (by omega)]; exact a5 c hc, fun q hq => by rw [pk_un (by omega)]; exact a6 q hq, pk_us, by rw [pk_un (by omega)]; exact a8⟩
theorem mapP_in {F : Nat → Int32 → Int32} {g : Nat → Int32} {n j : Nat} (h : j < n) : mapP F g n j = F j (g j) := if_pos h
theorem mapP_out {F : Nat → Int32 → Int32} {g : Nat → Int32} {n j : Nat} (h : n ≤ j) : mapP F g n j = g j := if_neg (by omega)
/-- a rule over all cells -/
theorem SP_map (h : SP W H P rk kd_ dn at_ wd nt f) (h49 : W * H ≤ 49) {F G : Nat → Int32 → Int32} (h1 : ∀ c k, c < 49 → k ≤ 9 → ∃ j, j ≤ 9 ∧ F c (nI k) = nI j) (h2 : ∀ c, c < 49 → (W * H ≤ c ∨ bs rk c = true) → F c 0 = 0) (h3 : ∀ c k, c < W * H → k ≤ 9 → G c (nI k) = F c (nI k)) : SP W H P rk kd_ (mapP F dn 49) at_ wd nt (mapP G f (W * H)) := by
  refine SP_gen h (fun c hc => ?_) (fun c hc hq => ?_) (fun c hc => ?_) (fun j hj => mapP_out (by omega))
  · obtain ⟨k, k1, k2⟩ := h.1 c hc
    rw [mapP_in hc, k2]
    exact h1 c k hc k1
  · rw [mapP_in hc, h.2.1 c hc hq]
    exact h2 c hc hq
  · obtain ⟨k, k1, k2⟩ := h.1 c hc
    rw [mapP_in hc]
    by_cases e : c < W * H
    · rw [mapP_in e, h.2.2.2.2.1 c hc, k2]
      exact h3 c k e k1
    · rw [mapP_out (by omega), h.2.2.2.2.1 c hc, h.2.1 c hc (Or.inl (by omega))]
      exact (h2 c hc (Or.inl (by omega))).symm
theorem SP_one (h : SP W H P rk kd_ dn at_ wd nt f) {c j : Nat} (hc : c < W * H) (h49 : W * H ≤ 49) (hr : bs rk c = false) (hj : j ≤ 9) : SP W H P rk kd_ (upd dn c (nI j)) at_ wd nt (upd f c (nI j)) := by
  refine SP_gen h (fun q hq => ?_) (fun q hq hz => ?_) (fun q hq => ?_) (fun q hq => pk_un (by omega))
  · by_cases e : q = c
    · subst e
      exact ⟨j, hj, pk_us⟩
    · rw [pk_un e]
      exact h.1 q hq
  · by_cases e : q = c
    · subst e
      rcases hz with z | z
      · omega
      · rw [hr] at z
        cases z
    · rw [pk_un e]
      exact h.2.1 q hq hz
  · by_cases e : q = c
    · subst e
      rw [pk_us, pk_us]
    · rw [pk_un e, pk_un e]
      exact h.2.2.2.2.1 q hq
theorem n_ng : ∀ k, k < 10 → ∀ b : Bool, (if 0 < nI k - (bif b then 1 else 2) then nI k - (bif b then 1 else 2) else 0) = nI (k - (bif b then 1 else 2)) := by decide +kernel
theorem n_nm : ∀ k, k < 10 → ∀ b : Bool, (if 0 < nI k then (if nI k - (bif b then 1 else 2) < 0 then 0 else nI k - (bif b then 1 else 2)) else nI k) = nI (k - (bif b then 1 else 2)) := by decide +kernel
theorem n_ml : ∀ k, k < 10 → mlF 0 (nI k) = nI (k - 3) ∧ mlM 0 (nI k) = nI (k - 3) := by decide +kernel
theorem n_sn : ∀ k, k < 10 → snF 0 (nI k) = nI (if k ≤ 4 then 0 else k - 1) ∧ snM 0 (nI k) = nI (if k ≤ 4 then 0 else k - 1) := by decide +kernel
theorem n_rn : ∀ k, k < 10 → (if nI k + 2 < 9 then nI k + 2 else 9) = nI (min 9 (k + 2)) ∧ rnM (nI k) = nI (min 9 (k + 2)) := by decide +kernel
theorem n_ro : ∀ k, k < 10 → (if 5 < nI k then nI k else 5) = nI (max 5 k) ∧ (if nI k < 5 then 5 else nI k) = nI (max 5 k) := by decide +kernel
theorem stl_eq (h : SP W H P rk kd_ dn at_ wd nt f) (hW7 : W ≤ 7) (hH7 : H ≤ 7) (hrk : WI rk (W * H)) {k c : Nat} (hk : k ≤ 4) (hW : 2 ≤ W) (hH : 2 ≤ H) (hc : c < W * H) : bs (shlS W (W * H) rk dn k) c = stl W H rk f k c := by
  have h49 := WH49 hW7 hH7
  unfold shlS stl
  by_cases h0 : k = 0
  · rw [if_pos h0, if_pos h0]
    unfold allS
    rw [bs_mk _ (by omega)]
    exact decide_eq_true hc
  · rw [if_neg h0, if_neg h0, mv_bs hW hW7 hH hH7 (WI_or hrk (h.wi h49 (by decide))) (by omega) hk (by omega), decide_eq_true hc, Bool.true_and, h.dnF]
theorem SP_night (h : SP W H P rk kd_ dn at_ wd nt f) (hW7 : W ≤ 7) (hH7 : H ≤ 7) (h2 : W * H = 0 ∨ (2 ≤ W ∧ 2 ≤ H)) (hrk : WI rk (W * H)) {k : Nat} (hk : k ≤ 4) : SP W H P rk kd_ (mapP (ngF (shlS W (W * H) rk dn k)) dn 49) at_ wd (nt + 1) (nmI W H rk f k) := by
  have h49 := WH49 hW7 hH7
  unfold nmI
  rw [h.2.2.2.2.2.2.1]
  refine SP_nt (SP_map h h49 (fun c j hc hj => ?_) (fun c hc hz => ?_) (fun c j hc hj => ?_)) _
  · exact ⟨_, by omega, n_ng j (by omega) (bs (shlS W (W * H) rk dn k) c)⟩
  · have := n_ng 0 (by decide) (bs (shlS W (W * H) rk dn k) c)
    rw [Nat.zero_sub] at this
    exact this
  · have hq : 2 ≤ W ∧ 2 ≤ H := h2.elim (fun z => by omega) (fun z => z)
    have e := n_nm j (by omega) (stl W H rk f k c)
    have e2 := n_ng j (by omega) (bs (shlS W (W * H) rk dn k) c)
    rw [stl_eq h hW7 hH7 hrk hk hq.1 hq.2 hc] at e2
    show (if 0 < nI j then _ else _) = (if 0 < nI j - (bif bs (shlS W (W * H) rk dn k) c then 1 else 2) then nI j - (bif bs (shlS W (W * H) rk dn k) c then 1 else 2) else 0)
    rw [stl_eq h hW7 hH7 hrk hk hq.1 hq.2 hc, e2]
    exact e
theorem SP_melt (h : SP W H P rk kd_ dn at_ wd nt f) (h49 : W * H ≤ 49) : SP W H P rk kd_ (mapP mlF dn 49) at_ wd nt (mapP mlM f (W * H)) := by
  refine SP_map h h49 (fun c j hc hj => ⟨_, by omega, (n_ml j (by omega)).1⟩) (fun c hc hz => (n_ml 0 (by decide)).1) (fun c j hc hj => ?_)
  exact (n_ml j (by omega)).2.trans (n_ml j (by omega)).1.symm
theorem SP_snow (h : SP W H P rk kd_ dn at_ wd nt f) (h49 : W * H ≤ 49) : SP W H P rk kd_ (mapP snF dn 49) at_ wd nt (mapP snM f (W * H)) := by
  refine SP_map h h49 (fun c j hc hj => ⟨_, by split <;> omega, (n_sn j (by omega)).1⟩) (fun c hc hz => (n_sn 0 (by decide)).1) (fun c j hc hj => ?_)
  exact (n_sn j (by omega)).2.trans (n_sn j (by omega)).1.symm
theorem SP_press (h : SP W H P rk kd_ dn at_ wd nt f) (h49 : W * H ≤ 49) {x : Int64} (hx : WI x (W * H)) (hr : x &&& rk = 0) : SP W H P rk kd_ (mapP (prF x) dn 49) at_ wd nt (mapP (prF x) f (W * H)) := by
  refine SP_map h h49 (fun c j hc hj => ?_) (fun c hc hz => ?_) (fun c j hc hj => rfl)
  · unfold prF
    cases bs x c
    · exact ⟨j, hj, rfl⟩
    · exact ⟨9, by decide, rfl⟩
  · unfold prF
    have e : bs x c = false := by
      cases hb : bs x c with
      | false => rfl
      | true =>
        rcases hz with z | z
        · have := hx c hb
          omega
        · have h3 := bs_eq0.mp hr c (bs_lt hb)
          rw [bs_and, hb, z] at h3
          cases h3
    rw [e]
    rfl
theorem SP_cross (h : SP W H P rk kd_ dn at_ wd nt f) (h49 : W * H ≤ 49) {c : Nat} (hc : c < W * H) (hr : bs rk c = false) : SP W H P rk kd_ (upd dn c (if dn c + 2 < 9 then dn c + 2 else 9)) at_ wd nt (upd f c (rnM (f c))) := by
  obtain ⟨k, k1, k2⟩ := h.1 c (by omega)
  obtain ⟨e1, e2⟩ := n_rn k (by omega)
  rw [h.2.2.2.2.1 c (by omega), k2, e1, e2]
  exact SP_one h hc h49 hr (Nat.min_le_left _ _)
end SPS
/-! rows put by -/
def SPR (W H P : Nat) (rk : Int64) (kd_ : Nat → Int32) (R : Nat → Int32) (k : Nat) (M : Nat → Int32) (j : Nat) : Prop := SP W H P rk kd_ (fun c => R (k * 58 + c)) (fun p => R (k * 58 + 49 + p)) (R (k * 58 + 56)) (R (k * 58 + 57)) (fun q => M (j + q))
theorem putS_in (R : Nat → Int32) (k : Nat) (dn at_ : Nat → Int32) (wd nt : Int32) : (∀ c, c < 49 → putS R k dn at_ wd nt (k * 58 + c) = dn c) ∧ (∀ p, p < 7 → putS R k dn at_ wd nt (k * 58 + 49 + p) = at_ p) ∧ putS R k dn at_ wd nt (k * 58 + 56) = wd ∧ putS R k dn at_ wd nt (k * 58 + 57) = nt := by
  unfold putS
  refine ⟨fun c hc => ?_, fun p hp => ?_, ?_, ?_⟩
  · rw [pk_un (by omega), pk_un (by omega), pk_cpy_out (by omega), pk_cpy_in (by omega) (by omega)]
    congr 1
    omega
  · rw [pk_un (by omega), pk_un (by omega), pk_cpy_in (by omega) (by omega)]
    congr 1
    omega
  · rw [pk_un (by omega), pk_us]
  · rw [pk_us]
theorem putS_out (R : Nat → Int32) (k : Nat) (dn at_ : Nat → Int32) (wd nt : Int32) {q : Nat} (h : q < k * 58 ∨ k * 58 + 58 ≤ q) : putS R k dn at_ wd nt q = R q := by
  unfold putS
  rw [pk_un (by omega), pk_un (by omega), pk_cpy_out (by omega), pk_cpy_out (by omega)]
section RWS
variable {W H P : Nat} {rk : Int64} {kd_ dn at_ f : Nat → Int32} {wd nt : Int32}
theorem SPR_new (h : SP W H P rk kd_ dn at_ wd nt f) {R M : Nat → Int32} {k j : Nat} (hM : ∀ q, q < 58 → M (j + q) = f q) : SPR W H P rk kd_ (putS R k dn at_ wd nt) k M j := by
  obtain ⟨p1, p2, p3, p4⟩ := putS_in R k dn at_ wd nt
  exact SP_congr h p1 p2 p3 p4 hM
theorem SPR_old {R R2 M M2 : Nat → Int32} {k k2 j j2 : Nat} (h : SPR W H P rk kd_ R k M j) (h1 : ∀ q, q < 58 → R2 (k2 * 58 + q) = R (k * 58 + q)) (h2 : ∀ q, q < 58 → M2 (j2 + q) = M (j + q)) : SPR W H P rk kd_ R2 k2 M2 j2 :=
  SP_congr h (fun c hc => h1 c (by omega)) (fun p hp => by rw [Nat.add_assoc, Nat.add_assoc]; exact h1 (49 + p) (by omega)) (h1 56 (by decide)) (h1 57 (by decide)) h2
/-- the deeds that are kept, on both sides -/
def DD (W H P : Nat) (rk : Int64) (kd_ : Nat → Int32) (f c : Nat) (R M : Nat → Int32) : Prop := ∀ i, i < c → SPR W H P rk kd_ R ((f + i) % 30) M (58 * i)
theorem blk_ne {a b q : Nat} (h : ¬ a = b) (hq : q < 58) : a * 58 + q < b * 58 ∨ b * 58 + 58 ≤ a * 58 + q := by omega
theorem md1 {f i c : Nat} (hf : f < 30) (hi : i < c) (hc : c < 30) : ¬ (f + i) % 30 = (f + c) % 30 := by omega
theorem DD_rem {g : Nat → Int32} (hs : SP W H P rk kd_ dn at_ wd nt g) {fi c : Nat} (h1 : fi < 30) (h2 : c ≤ 30) {R M : Nat → Int32} (h : DD W H P rk kd_ fi c R M) : DD W H P rk kd_ (rmF fi c) (rmC c + 1) (putS R ((rmF fi c + rmC c) % 30) dn at_ wd nt) (pstM M g c) := by
  intro i hi
  unfold rmF rmC at *
  unfold pstM rmC
  by_cases h30 : c = 30
  · rw [if_pos h30] at hi
    rw [if_pos h30, if_pos h30, if_pos h30]
    by_cases e : i = 29
    · subst e
      exact SPR_new hs (fun q hq => by rw [pk_cpy_in (by omega) (by omega), show 0 + (58 * 29 + q - 58 * 29) = q by omega])
    · refine SPR_old (h (i + 1) (by omega)) (fun q hq => ?_) (fun q hq => ?_)
      · have e3 : ((fi + 1) % 30 + i) % 30 = (fi + (i + 1)) % 30 := by omega
        rw [e3]
        exact putS_out R _ dn at_ wd nt (blk_ne (by omega) hq)
      · rw [pk_cpy_out (by omega)]
        unfold shf
        rw [if_pos (by omega)]
        congr 1
        omega
  · rw [if_neg h30] at hi
    rw [if_neg h30, if_neg h30, if_neg h30]
    by_cases e : i = c
    · subst e
      exact SPR_new hs (fun q hq => by rw [pk_cpy_in (by omega) (by omega)]; congr 1; omega)
    · refine SPR_old (h i (by omega)) (fun q hq => ?_) (fun q hq => ?_)
      · exact putS_out R _ dn at_ wd nt (blk_ne (md1 h1 (by omega) (by omega)) hq)
      · exact pk_cpy_out (by omega)
/-- a row taken again -/
theorem SPR_take {R M : Nat → Int32} {k j : Nat} (h : SPR W H P rk kd_ R k M j) (dn2 at2 g : Nat → Int32) : SP W H P rk kd_ (va_cpy R dn2 (k * 58) 0 49) (va_cpy R at2 (k * 58 + 49) 0 7) (R (k * 58 + 56)) (R (k * 58 + 57)) (va_cpy M g j 0 58) := by
  refine SP_congr h (fun c hc => ?_) (fun p hp => ?_) rfl rfl (fun q hq => ?_)
  · rw [pk_cpy_in (by omega) (by omega), Nat.sub_zero]
  · rw [pk_cpy_in (by omega) (by omega), Nat.sub_zero]
  · rw [pk_cpy_in (by omega) (by omega), Nat.sub_zero]
end RWS
