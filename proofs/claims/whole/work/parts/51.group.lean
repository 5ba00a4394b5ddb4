/-! groups and shapes by their bits -/
def SB (x y : Int64) : Prop := ∀ i, bs x i = true → bs y i = true
theorem SB_rf (x : Int64) : SB x x := fun _ h => h
theorem SB_tr {x y z : Int64} (h : SB x y) (h2 : SB y z) : SB x z := fun i hi => h2 i (h i hi)
theorem SB_WI {x y : Int64} {N : Nat} (h : SB x y) (h2 : WI y N) : WI x N := fun i hi => h2 i (h i hi)
theorem pop_lt {x y : Int64} (h : SB x y) (hne : ¬ x = y) : pop x < pop y := by
  obtain ⟨i, hi, hb⟩ : ∃ i, i < 64 ∧ ¬ (bs x i = bs y i) := Classical.byContradiction (fun z => hne (bs_ext (fun i hi => Classical.byContradiction (fun q => z ⟨i, hi, q⟩))))
  have hx : bs x i = false := by
    cases q : bs x i with
    | false => rfl
    | true => exact absurd (q.trans (h i q).symm) hb
  have hy : bs y i = true := by
    cases q : bs y i with
    | true => rfl
    | false => exact absurd (hx.trans q.symm) hb
  have e := fb_ct_upd (bs x) true (i := i) hi
  rw [hx] at e
  have h2 : fb_ct (fun k => if k = i then true else bs x k) 64 ≤ fb_ct (bs y) 64 := fb_ct_sub (fun k _ hk => by
    by_cases q : k = i
    · rw [q]; exact hy
    · rw [if_neg q] at hk; exact h k hk)
  simp only [Bool.false_eq_true, if_false, if_true, Nat.add_zero] at e
  unfold pop
  omega
def nbr (W H : Nat) (x : Int64) (j : Nat) : Bool := anyF (fun i => ohas x (bsd W H j (opW (i + 1)))) 4
def obs (X : Int64) (o : Option Nat) : Int64 := match o with
  | none => 0
  | some t => bif bs X t then bit t else 0
def wyF (W H : Nat) (X : Int64) (k i : Nat) (a : Int64) : Int64 := a ||| obs X (bsd W H k (i + 1))
def kyF (W H : Nat) (X had : Int64) (k : Nat) (a : Int64) : Int64 := bif bs had k then fo (wyF W H X k) 4 a else a
/-- a step of the model's growing -/
def stM (W H : Nat) (X had : Int64) : Int64 := fo (kyF W H X had) (W * H) had
theorem fo_wy (W H : Nat) (X : Int64) (k : Nat) (a : Int64) (j : Nat) : ∀ n, bs (fo (wyF W H X k) n a) j = (bs a j || anyF (fun i => bs (obs X (bsd W H k (i + 1))) j) n)
  | 0 => by show bs a j = (bs a j || false); rw [Bool.or_false]
  | n + 1 => by
    show bs (fo (wyF W H X k) n a ||| obs X (bsd W H k (n + 1))) j = (bs a j || (anyF (fun i => bs (obs X (bsd W H k (i + 1))) j) n || bs (obs X (bsd W H k (n + 1))) j))
    rw [bs_or, fo_wy W H X k a j n, Bool.or_assoc]
theorem fo_ky (W H : Nat) (X had : Int64) (a : Int64) (j : Nat) : ∀ n, bs (fo (kyF W H X had) n a) j = (bs a j || anyF (fun k => bs had k && anyF (fun i => bs (obs X (bsd W H k (i + 1))) j) 4) n)
  | 0 => by show bs a j = (bs a j || false); rw [Bool.or_false]
  | n + 1 => by
    show bs (bif bs had n then fo (wyF W H X n) 4 (fo (kyF W H X had) n a) else fo (kyF W H X had) n a) j = (bs a j || (anyF (fun k => bs had k && anyF (fun i => bs (obs X (bsd W H k (i + 1))) j) 4) n || (bs had n && anyF (fun i => bs (obs X (bsd W H n (i + 1))) j) 4)))
    cases hb : bs had n with
    | true =>
      show bs (fo (wyF W H X n) 4 (fo (kyF W H X had) n a)) j = _
      rw [fo_wy, fo_ky W H X had a j n, Bool.true_and, Bool.or_assoc]
    | false =>
      show bs (fo (kyF W H X had) n a) j = _
      rw [fo_ky W H X had a j n, Bool.false_and, Bool.or_false]
theorem beq_of {a b : Bool} (h1 : a = true → b = true) (h2 : b = true → a = true) : a = b := by
  cases a <;> cases b
  · rfl
  · exact h2 rfl
  · exact (h1 rfl).symm
  · rfl
theorem obs_t {X : Int64} {o : Option Nat} {j : Nat} (h : bs (obs X o) j = true) : o = some j ∧ bs X j = true := by
  cases o with
  | none =>
    have : bs (0 : Int64) j = true := h
    rw [bs_0] at this
    cases this
  | some t =>
    have h2 : bs (bif bs X t then bit t else 0) j = true := h
    cases hb : bs X t with
    | false =>
      rw [hb] at h2
      have : bs (0 : Int64) j = true := h2
      rw [bs_0] at this
      cases this
    | true =>
      rw [hb] at h2
      have h3 : bs (bit t) j = true := h2
      rw [bs_bit' (bs_lt hb)] at h3
      have e := of_decide_eq_true h3
      subst e
      exact ⟨rfl, hb⟩
theorem obs_i {X : Int64} {j : Nat} (h : bs X j = true) : bs (obs X (some j)) j = true := by
  show bs (bif bs X j then bit j else 0) j = true
  rw [h]
  show bs (bit j) j = true
  rw [bs_bit' (bs_lt h)]
  simp
theorem ohas_t {x : Int64} {o : Option Nat} (h : ohas x o = true) : ∃ v, o = some v ∧ bs x v = true := by
  cases o with
  | none => cases h
  | some v => exact ⟨v, rfl, h⟩
section GR
variable {W H : Nat}
theorem grn_bs (hW : 2 ≤ W) (hW7 : W ≤ 7) (hH : 2 ≤ H) (hH7 : H ≤ 7) {x : Int64} (hx : WI x (W * H)) {j : Nat} (hj : j < 64) : bs (grnS W (W * H) x) j = (bs x j || (decide (j < W * H) && nbr W H x j)) := by
  unfold grnS
  rw [bs_or, bs_or, bs_or, bs_or, mv_bs hW hW7 hH hH7 hx (d := 1) (by decide) (by decide) hj, mv_bs hW hW7 hH hH7 hx (d := 2) (by decide) (by decide) hj, mv_bs hW hW7 hH hH7 hx (d := 3) (by decide) (by decide) hj, mv_bs hW hW7 hH hH7 hx (d := 4) (by decide) (by decide) hj]
  unfold nbr anyF anyF anyF anyF anyF
  cases decide (j < W * H) <;> simp [Bool.or_assoc]
theorem st_bs (hW : 2 ≤ W) (hW7 : W ≤ 7) (hH : 2 ≤ H) (hH7 : H ≤ 7) {X g : Int64} (hX : WI X (W * H)) (hg : SB g X) {j : Nat} (hj : j < 64) : bs (stG W (W * H) X g) j = (bs g j || (bs X j && nbr W H g j)) := by
  unfold stG
  rw [bs_and, grn_bs hW hW7 hH hH7 (SB_WI hg hX) hj]
  cases hb : bs X j with
  | true =>
    rw [decide_eq_true (hX j hb)]
    simp
  | false =>
    cases hc : bs g j with
    | true =>
      rw [hg j hc] at hb
      cases hb
    | false => simp
theorem stM_eq (hW : 2 ≤ W) (hW7 : W ≤ 7) (hH : 2 ≤ H) (hH7 : H ≤ 7) {X g : Int64} (hX : WI X (W * H)) (hg : SB g X) : stM W H X g = stG W (W * H) X g := by
  apply bs_ext
  intro j hj
  rw [st_bs hW hW7 hH hH7 hX hg hj]
  unfold stM
  rw [fo_ky]
  congr 1
  apply beq_of
  · intro h
    obtain ⟨k, k1, k2⟩ := anyF_iff.mp h
    obtain ⟨k3, k4⟩ := andE k2
    obtain ⟨i, i1, i2⟩ := anyF_iff.mp k4
    obtain ⟨o1, o2⟩ := obs_t i2
    rw [o2, Bool.true_and]
    refine anyF_iff.mpr ⟨i, i1, ?_⟩
    rw [(bsd_lt hW hW7 hH hH7 k1 (by omega) o1).2]
    exact k3
  · intro h
    obtain ⟨h1, h2⟩ := andE h
    obtain ⟨i, i1, i2⟩ := anyF_iff.mp h2
    obtain ⟨v, v1, v2⟩ := ohas_t i2
    have hv := SB_WI hg hX v v2
    refine anyF_iff.mpr ⟨v, hv, ?_⟩
    rw [v2, Bool.true_and]
    refine anyF_iff.mpr ⟨i, i1, ?_⟩
    rw [(bsd_op hW hW7 hH hH7 hv (hX j h1) (by omega) (by omega)).mpr v1]
    exact obs_i h1
end GR
theorem grn_sub (W N : Nat) (x : Int64) : SB x (grnS W N x) := fun i hi => by
  unfold grnS
  rw [bs_or, bs_or, bs_or, bs_or, hi]
  rfl
theorem st_ge {W N : Nat} {X g : Int64} (hg : SB g X) : SB g (stG W N X g) := fun i hi => by
  unfold stG
  rw [bs_and, grn_sub W N g i hi, hg i hi]
  rfl
theorem st_le (W N : Nat) (X g : Int64) : SB (stG W N X g) X := fun i hi => by
  unfold stG at hi
  rw [bs_and] at hi
  exact (andE hi).2
theorem it_sub {W N : Nat} {X : Int64} : ∀ (n : Nat) (g : Int64), SB g X → SB g (itG W N X n g) ∧ SB (itG W N X n g) X
  | 0, g, h => ⟨SB_rf g, h⟩
  | n + 1, g, h => by
    obtain ⟨h1, h2⟩ := it_sub (W := W) (N := N) n (stG W N X g) (st_le W N X g)
    exact ⟨SB_tr (st_ge h) h1, h2⟩
theorem bit_and {X : Int64} {c : Nat} (h : bs X c = true) : bit c &&& X = bit c := by
  apply bs_ext
  intro i hi
  rw [bs_and, bs_bitc (bs_lt h) hi]
  by_cases q : i = c
  · subst q
    rw [h]
    simp
  · simp [q]
theorem SB_bit {X : Int64} {c : Nat} (h : bs X c = true) : SB (bit c) X := fun i hi => by
  rw [bs_bit' (bs_lt h)] at hi
  rw [of_decide_eq_true hi]
  exact h
theorem grp_bit (W N : Nat) {X : Int64} {c : Nat} (h : bs X c = true) : grpS W N X (bit c) = itG W N X 49 (bit c) := by
  unfold grpS
  rw [bit_and h]
theorem fg_eq (W N : Nat) {X : Int64} (h : ¬ X = 0) : fgS W N X = itG W N X 49 (bit (lo X)) := by
  unfold fgS
  rw [lowbit h]
  exact grp_bit W N (lo_spec h).2.1
theorem fg_sub (W N : Nat) {X : Int64} (h : ¬ X = 0) : SB (fgS W N X) X ∧ bs (fgS W N X) (lo X) = true := by
  rw [fg_eq W N h]
  obtain ⟨l1, l2, l3⟩ := lo_spec h
  obtain ⟨h1, h2⟩ := it_sub (W := W) (N := N) 49 (bit (lo X)) (SB_bit l2)
  exact ⟨h2, h1 _ (by rw [bs_bit' l1]; simp)⟩
theorem fg_ne (W N : Nat) : ∀ X : Int64, ¬ X = 0 → ¬ fgS W N X = 0 := by
  intro X h z
  have h2 := (fg_sub W N h).2
  rw [z, bs_0] at h2
  cases h2
theorem lo_fg (W N : Nat) {X : Int64} (h : ¬ X = 0) : lo (fgS W N X) = lo X := by
  obtain ⟨l1, l2, l3⟩ := lo_spec h
  obtain ⟨h1, h2⟩ := fg_sub W N h
  refine lo_of l1 h2 (fun q hq => ?_)
  cases hb : bs (fgS W N X) q with
  | false => rfl
  | true => exact absurd (h1 q hb) (by rw [l3 q hq]; decide)
theorem rest_sub (X g : Int64) : SB (X &&& (g ^^^ (-1))) X := fun i hi => by
  rw [bs_and] at hi
  exact (andE hi).1
theorem rest_lt (W N : Nat) {X : Int64} (h : ¬ X = 0) : pop (X &&& (fgS W N X ^^^ (-1))) < pop X := by
  obtain ⟨h1, h2⟩ := fg_sub W N h
  refine pop_lt (rest_sub X _) (fun z => ?_)
  have h3 := (lo_spec h).2.1
  have h4 : bs (X &&& (fgS W N X ^^^ (-1))) (lo X) = true := by rw [z]; exact h3
  rw [bs_and, bs_not _ (lo_spec h).1, h2] at h4
  simp at h4
theorem gfd_pi {α β : Type} {W N : Nat} {f : α → Int64 → α} {f2 : β → Int64 → β} {π : α → β} (hf : ∀ a g, π (f a g) = f2 (π a) g) : ∀ (n : Nat) (X : Int64) (a : α), π (gfd W N f n X a) = gfd W N f2 n X (π a)
  | 0, X, a => rfl
  | n + 1, X, a => by
    by_cases h : X = 0
    · subst h
      rw [gfd_0, gfd_0]
    · rw [gfd_s h, gfd_s h, gfd_pi hf n, hf]
/-! shapes -/
def shM (W H k c : Nat) : Nat → Nat → Int64 → Bool → Int64
  | 0, _, g, a => bif a then g else 0
  | n + 1, d, g, a => bif lim k d then shM W H k c n (d + 1) (g ||| obit (bsd W H c d)) (a && (bsd W H c d).isSome) else shM W H k c n (d + 1) g a
def shpM (W H k c : Nat) : Int64 := shM W H k c 4 1 (bit c) true
theorem shM_f (W H k c : Nat) : ∀ n d g, shM W H k c n d g false = 0
  | 0, d, g => rfl
  | n + 1, d, g => by
    show (bif lim k d then _ else _) = (0 : Int64)
    cases lim k d
    · exact shM_f W H k c n _ _
    · exact shM_f W H k c n _ _
theorem bit_ne {c : Nat} (h : c < 64) : ¬ bit c = 0 := by
  intro z
  have h2 := bs_bit' h c
  rw [z, bs_0] at h2
  simp at h2
section SHP
variable {W H : Nat}
theorem mv_obit (hW : 2 ≤ W) (hW7 : W ≤ 7) (hH : 2 ≤ H) (hH7 : H ≤ 7) {c d : Nat} (hc : c < W * H) (h1 : 1 ≤ d) (hd : d ≤ 4) : mvS W (W * H) (bit c) d = obit (bsd W H c d) := by
  have h49 := WH49 hW7 hH7
  apply bs_ext
  intro j hj
  rw [mv_bs hW hW7 hH hH7 (WI_bit hc h49) h1 hd hj]
  apply beq_of
  · intro h
    obtain ⟨a, b⟩ := andE h
    obtain ⟨v, v1, v2⟩ := ohas_t b
    rw [bs_bit' (by omega)] at v2
    rw [of_decide_eq_true v2] at v1
    rw [(bsd_op hW hW7 hH hH7 hc (of_decide_eq_true a) h1 hd).mpr v1]
    show bs (bit j) j = true
    rw [bs_bit' hj]
    simp
  · intro h
    cases ho : bsd W H c d with
    | none =>
      rw [ho] at h
      have : bs (0 : Int64) j = true := h
      rw [bs_0] at this
      cases this
    | some t =>
      rw [ho] at h
      obtain ⟨t1, t2⟩ := bsd_lt hW hW7 hH hH7 hc hd ho
      have h2 : bs (bit t) j = true := h
      rw [bs_bit' (by omega)] at h2
      have e := of_decide_eq_true h2
      subst e
      rw [decide_eq_true t1, t2]
      show bs (bit c) c = true
      rw [bs_bit' (by omega)]
      simp
theorem dshp_eq (hW : 2 ≤ W) (hW7 : W ≤ 7) (hH : 2 ≤ H) (hH7 : H ≤ 7) {c k : Nat} (hc : c < W * H) (rk : Int64) : ∀ (n d : Nat) (g : Int64), 1 ≤ d → d + n = 5 → dshp W (W * H) rk k c n d g = if shM W H k c n d g true &&& rk = 0 then shM W H k c n d g true else 0
  | 0, d, g, h1, h2 => rfl
  | n + 1, d, g, h1, h2 => by
    have h49 := WH49 hW7 hH7
    show (bif lim k d then (if mvS W (W * H) (bit c) d = 0 then 0 else dshp W (W * H) rk k c n (d + 1) (g ||| mvS W (W * H) (bit c) d)) else dshp W (W * H) rk k c n (d + 1) g) = _
    have e : shM W H k c (n + 1) d g true = bif lim k d then shM W H k c n (d + 1) (g ||| obit (bsd W H c d)) (bsd W H c d).isSome else shM W H k c n (d + 1) g true := rfl
    rw [e]
    cases lim k d with
    | false => exact dshp_eq hW hW7 hH hH7 hc rk n (d + 1) g (by omega) (by omega)
    | true =>
      rw [mv_obit hW hW7 hH hH7 hc h1 (by omega)]
      dsimp only [cond_true]
      cases ho : bsd W H c d with
      | none =>
        show (if (0 : Int64) = 0 then (0 : Int64) else _) = _
        rw [if_pos rfl]
        show (0 : Int64) = if shM W H k c n (d + 1) _ false &&& rk = 0 then shM W H k c n (d + 1) _ false else 0
        rw [shM_f, ite_self]
      | some t =>
        have ht := (bsd_lt hW hW7 hH hH7 hc (by omega) ho).1
        show (if bit t = 0 then (0 : Int64) else dshp W (W * H) rk k c n (d + 1) (g ||| bit t)) = _
        rw [if_neg (bit_ne (by omega))]
        exact dshp_eq hW hW7 hH hH7 hc rk n (d + 1) _ (by omega) (by omega)
theorem drw_eq (hW : 2 ≤ W) (hW7 : W ≤ 7) (hH : 2 ≤ H) (hH7 : H ≤ 7) {c k : Nat} (hc : c < W * H) (rk : Int64) : drwS W (W * H) rk k c = if shpM W H k c &&& rk = 0 then shpM W H k c else 0 := dshp_eq hW hW7 hH hH7 hc rk 4 1 (bit c) (by decide) rfl
theorem shM_WI (hW : 2 ≤ W) (hW7 : W ≤ 7) (hH : 2 ≤ H) (hH7 : H ≤ 7) {c k : Nat} (hc : c < W * H) : ∀ (n d : Nat) (g : Int64) (a : Bool), d + n = 5 → WI g (W * H) → WI (shM W H k c n d g a) (W * H)
  | 0, d, g, a, _, h => by
    show WI (bif a then g else 0) (W * H)
    cases a
    · exact WI_0 _
    · exact h
  | n + 1, d, g, a, hd, h => by
    have h49 := WH49 hW7 hH7
    show WI (bif lim k d then shM W H k c n (d + 1) (g ||| obit (bsd W H c d)) (a && (bsd W H c d).isSome) else shM W H k c n (d + 1) g a) (W * H)
    cases lim k d with
    | false => exact shM_WI hW hW7 hH hH7 hc n (d + 1) g a (by omega) h
    | true =>
      refine shM_WI hW hW7 hH hH7 hc n (d + 1) _ _ (by omega) (WI_or h ?_)
      cases ho : bsd W H c d with
      | none => exact WI_0 _
      | some t => exact WI_bit (bsd_lt hW hW7 hH hH7 hc (by omega) ho).1 h49
theorem shp_WI (hW : 2 ≤ W) (hW7 : W ≤ 7) (hH : 2 ≤ H) (hH7 : H ≤ 7) {c k : Nat} (hc : c < W * H) : WI (shpM W H k c) (W * H) := shM_WI hW hW7 hH hH7 hc 4 1 _ _ rfl (WI_bit hc (WH49 hW7 hH7))
end SHP
