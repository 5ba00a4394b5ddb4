/-! links between what the class and the model ask; what holds between calls -/
theorem and_or0 {x a b : Int64} : x &&& (a ||| b) = 0 ↔ x &&& a = 0 ∧ x &&& b = 0 := by
  constructor
  · intro h
    refine ⟨bs_eq0.mpr (fun i hi => ?_), bs_eq0.mpr (fun i hi => ?_)⟩ <;>
    · have q := bs_eq0.mp h i hi
      rw [bs_and, bs_or] at q
      rw [bs_and]
      cases h1 : bs x i <;> cases h2 : bs a i <;> cases h3 : bs b i <;> simp_all
  · intro ⟨h1, h2⟩
    refine bs_eq0.mpr (fun i hi => ?_)
    have q1 := bs_eq0.mp h1 i hi
    have q2 := bs_eq0.mp h2 i hi
    rw [bs_and] at q1 q2
    rw [bs_and, bs_or]
    cases h1 : bs x i <;> cases h2 : bs a i <;> cases h3 : bs b i <;> simp_all
theorem CN.pos {s : Nat → Int32} {l : Nat → Int64} {A : Nat → Nat → Int32} {B : Nat → Nat → Int64} {W H P : Nat} (h : CN s l A B W H P) (h0 : 0 < W * H) : 2 ≤ W ∧ 2 ≤ H := by
  rcases h.2.2.2.2.2.2.1 with ⟨a, b, c⟩ | q
  · rw [a, Nat.zero_mul] at h0
    exact absurd h0 (Nat.lt_irrefl 0)
  · exact q
theorem sh_eq {s : Nat → Int32} {l : Nat → Int64} {A : Nat → Nat → Int32} {B : Nat → Nat → Int64} {W H P : Nat} (h : CN s l A B W H P) {k c : Nat} (hk : k < 5) (hc : c < W * H) : B 5 (k * 49 + c) = if shpM W H k c &&& l 3 = 0 then shpM W H k c else 0 := by
  have h49 := h.n49
  obtain ⟨hW, hH⟩ := h.pos (by omega)
  rw [h.2.2.2.2.2.2.2.2.2.2.2 k c hk (by omega), if_pos hc, drw_eq hW h.2.2.2.1 hH h.2.2.2.2.1 hc]
theorem room_eq {s : Nat → Int32} {l : Nat → Int64} {A : Nat → Nat → Int32} {B : Nat → Nat → Int64} {W H P : Nat} (h : CN s l A B W H P) {dn f : Nat → Int32} (hd : dnS f 1 (W * H) = dnS dn 1 49) {k c : Nat} (hk : k < 5) (hc : c < W * H) : bs (rmS (B 5) dn k (W * H)) c = mayB W H (l 3) f k c := by
  have h49 := h.n49
  unfold rmS setP roomF mayB
  rw [bs_mk _ (by omega), decide_eq_true hc, Bool.true_and, sh_eq h hk hc, hd]
  by_cases q : shpM W H k c &&& l 3 = 0
  · rw [if_pos q]
    congr 1
    apply decide_eq_decide.mpr
    rw [and_or0]
    exact ⟨fun z => ⟨q, z⟩, fun z => z.2⟩
  · rw [if_neg q, decide_eq_false (p := ¬ (0 : Int64) = 0) (fun z => z rfl), Bool.false_and, decide_eq_false (p := shpM W H k c &&& (l 3 ||| dnS dn 1 49) = 0) (fun z => q (and_or0.mp z).1), Bool.and_false]
theorem isMF_iff {W H : Nat} {g : Int64} {k : Nat} {b : Bool} : ∀ n, fo (isMF W H g k) n b = true ↔ b = true ∨ ∃ c, c < n ∧ shpM W H k c = g
  | 0 => ⟨fun h => Or.inl h, fun h => h.elim (fun z => z) (fun ⟨c, c1, _⟩ => absurd c1 (Nat.not_lt_zero c))⟩
  | n + 1 => by
    have ih := isMF_iff (W := W) (H := H) (g := g) (k := k) (b := b) n
    show (fo (isMF W H g k) n b || decide (shpM W H k n = g)) = true ↔ _
    rw [Bool.or_eq_true, ih, decide_eq_true_iff]
    constructor
    · rintro ((h | ⟨c, c1, c2⟩) | h)
      · exact Or.inl h
      · exact Or.inr ⟨c, by omega, c2⟩
      · exact Or.inr ⟨n, by omega, h⟩
    · rintro (h | ⟨c, c1, c2⟩)
      · exact Or.inl (Or.inl h)
      · by_cases e : c = n
        · subst e
          exact Or.inr c2
        · exact Or.inl (Or.inr ⟨c, by omega, c2⟩)
theorem isMK_iff {W H : Nat} {g : Int64} : ∀ n, fo (isMK W H g) n false = true ↔ ∃ k c, k < n ∧ c < W * H ∧ shpM W H k c = g
  | 0 => ⟨fun h => (by cases h), fun ⟨k, c, k1, _⟩ => absurd k1 (Nat.not_lt_zero k)⟩
  | n + 1 => by
    have ih := isMK_iff (W := W) (H := H) (g := g) n
    show fo (isMF W H g n) (W * H) (fo (isMK W H g) n false) = true ↔ _
    rw [isMF_iff, ih]
    constructor
    · rintro (⟨k, c, k1, c1, c2⟩ | ⟨c, c1, c2⟩)
      · exact ⟨k, c, by omega, c1, c2⟩
      · exact ⟨n, c, by omega, c1, c2⟩
    · rintro ⟨k, c, k1, c1, c2⟩
      by_cases e : k = n
      · subst e
        exact Or.inr ⟨c, c1, c2⟩
      · exact Or.inl ⟨k, c, by omega, c1, c2⟩
theorem isSh_eq {s : Nat → Int32} {l : Nat → Int64} {A : Nat → Nat → Int32} {B : Nat → Nat → Int64} {W H P : Nat} (h : CN s l A B W H P) {g : Int64} (hg : ¬ g = 0) (hr : g &&& l 3 = 0) : isSh (B 5) g = isM W H g := by
  apply beq_of
  · intro q
    obtain ⟨j, j1, j2⟩ := anyF_iff.mp q
    have e := of_decide_eq_true j2
    have h2 := h.2.2.2.2.2.2.2.2.2.2.2 (j / 49) (j % 49) (by omega) (by omega)
    rw [show j / 49 * 49 + j % 49 = j by omega] at h2
    by_cases hc : j % 49 < W * H
    · have h3 := sh_eq h (k := j / 49) (by omega) hc
      rw [show j / 49 * 49 + j % 49 = j by omega, e] at h3
      by_cases q2 : shpM W H (j / 49) (j % 49) &&& l 3 = 0
      · rw [if_pos q2] at h3
        exact (isMK_iff 5).mpr ⟨j / 49, j % 49, by omega, hc, h3.symm⟩
      · rw [if_neg q2] at h3
        exact absurd h3 hg
    · rw [if_neg hc, e] at h2
      exact absurd h2 hg
  · intro q
    obtain ⟨k, c, k1, c1, c2⟩ := (isMK_iff 5).mp q
    have h49 := h.n49
    refine anyF_iff.mpr ⟨k * 49 + c, by omega, decide_eq_true ?_⟩
    rw [sh_eq h k1 c1, c2, if_pos hr]
theorem gfd_cong {α : Type} {W N : Nat} {f f2 : α → Int64 → α} {X0 : Int64} (hf : ∀ a g, SB g X0 → ¬ g = 0 → f a g = f2 a g) : ∀ (n : Nat) (X : Int64) (a : α), SB X X0 → gfd W N f n X a = gfd W N f2 n X a
  | 0, X, a, _ => rfl
  | n + 1, X, a, h => by
    by_cases h0 : X = 0
    · subst h0
      rw [gfd_0, gfd_0]
    · rw [gfd_s h0, gfd_s h0, hf a _ (SB_tr (fg_sub W N h0).1 h) (fg_ne W N X h0)]
      exact gfd_cong hf n _ _ (SB_tr (rest_sub X _) h)
theorem gp_n (W H n : Nat) (X : Int64) (a : Nat × Int32 × Nat × Nat) : (gfd W (W * H) (gpF W H) n X a).1 = gfd W (W * H) (fun a _ => a + 1) n X a.1 := gfd_pi (π := Prod.fst) (fun _ _ => rfl) n X a
theorem gp_b (W H n : Nat) (X : Int64) (a : Nat × Int32 × Nat × Nat) : (gfd W (W * H) (gpF W H) n X a).2.1 = (gfd W (W * H) bigF n X (a.2.1, a.2.2.1)).1 := by
  have h := gfd_pi (W := W) (N := W * H) (f := gpF W H) (f2 := bigF) (π := fun a => (a.2.1, a.2.2.1)) (fun a g => by
    unfold gpF bigF
    dsimp only
    split <;> rfl) n X a
  exact congrArg Prod.fst h
theorem gp_f (W H n : Nat) (X : Int64) (a : Nat × Int32 × Nat × Nat) : (gfd W (W * H) (gpF W H) n X a).2.2.2 = gfd W (W * H) (fun a g => a + (bif isM W H g then 0 else 1)) n X a.2.2.2 := gfd_pi (π := fun a => a.2.2.2) (fun _ _ => rfl) n X a
/-- images, the text, what was found, the book, on both sides -/
def IM (W H P : Nat) (rk : Int64) (kd_ R S K M T : Nat → Int32) : Prop := ∀ i, i < 2 → T i = K i ∧ (K i = 0 ∨ (K i = 1 ∧ SPR W H P rk kd_ R i M (59 * i) ∧ SD (S i) ∧ M (59 * i + 58) = S i))
def TX (x y : Int32) (t u : Nat → Int32) : Prop := ∃ n, n ≤ 240 ∧ x = nI n ∧ y = nI n ∧ ∀ i, i < n → u i = t i ∧ ∃ k, k ≤ 255 ∧ t i = nI k
def FO (N : Nat) (x y : Int32) (fc fd g : Nat → Int32) : Prop := ∃ m, m ≤ 6 ∧ x = nI m ∧ y = nI m ∧ ∀ i, i < m → (∃ q, q < N ∧ fc i = nI q) ∧ g (2 * i) = fc i ∧ ∃ b, fd i = b01 b ∧ g (2 * i + 1) = b01 b
def BK (x y : Int32) (e g : Nat → Int32) : Prop := ∃ b, b ≤ 20 ∧ x = nI b ∧ y = nI b ∧ ∀ i, i < b → g i = e i
def INV (s : Nat → Int32) (l : Nat → Int64) (A : Nat → Nat → Int32) (B : Nat → Nat → Int64) (W H P fi c : Nat) : Prop :=
  CN s l A B W H P ∧ MN (A 27) (l 3) W H P ∧ WI (l 3) (W * H) ∧ (∀ p, p < P → A 27 (5 + p) = A 4 p) ∧ SP W H P (l 3) (A 4) (A 10) (A 11) (s 9) (s 10) (A 29) ∧ (s 6 = nI fi ∧ fi < 30 ∧ s 7 = nI c ∧ c ≤ 30 ∧ s 23 = nI c ∧ DD W H P (l 3) (A 4) fi c (A 16) (A 32)) ∧ (SD (s 8) ∧ l 8 = (s 8).toInt64) ∧ IM W H P (l 3) (A 4) (A 18) (A 19) (A 20) (A 33) (A 34) ∧ TX (s 0) (s 24) (A 2) (A 35) ∧ s 25 = s 2 ∧ FO (W * H) (s 13) (s 26) (A 22) (A 23) (A 36) ∧ BK (s 14) (s 27) (A 24) (A 37)
def Jn (s : Nat → Int32) (l : Nat → Int64) (A : Nat → Nat → Int32) (B : Nat → Nat → Int64) : Prop := ∃ W H P fi c, INV s l A B W H P fi c
/-- both answer alike, and all holds again -/
def Both (sc : Scr) (D mC nC mM nM : Nat) (args : Stk) (w : Bool) (s : Nat → Int32) (l : Nat → Int64) (A : Nat → Nat → Int32) (B : Nat → Nat → Int64) : Prop := ∃ (v : Int32) (h1 : AHp) (w2 : Bool) (s2 : Nat → Int32) (l2 : Nat → Int64) (A2 : Nat → Nat → Int32) (B2 : Nat → Nat → Int64), Ev sc D mC 0 (iniL nC (.ref 0 :: args)) [] (HH w s l A B) (some (.int v)) h1 ∧ Ev sc D mM 0 (iniL nM (.ref 26 :: args)) [] h1 (some (.int v)) (HH w2 s2 l2 A2 B2) ∧ Jn s2 l2 A2 B2
