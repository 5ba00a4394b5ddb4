/-! the model: the next order -/
theorem blt_t {a b : Nat} (h : Nat.blt a b = true) : a < b := Nat.le_of_ble_eq_true h
theorem blt_f {a b : Nat} (h : Nat.blt a b = false) : ¬ a < b := fun z => by
  have := Nat.ble_eq_true_of_le (show a + 1 ≤ b from z)
  rw [show Nat.ble (a + 1) b = Nat.blt a b from rfl, h] at this
  cases this
theorem kdn_some {f : Nat → Nat} : ∀ {n k : Nat}, kdn f n = some k → k < n ∧ ¬ f (k + 1) < f k
  | 0, k, h => by cases h
  | n + 1, k, h => by
    have h2 : (bif Nat.blt (f (n + 1)) (f n) then kdn f n else some n) = some k := h
    cases hb : Nat.blt (f (n + 1)) (f n) with
    | true =>
      rw [hb] at h2
      obtain ⟨h3, h4⟩ := kdn_some (n := n) h2
      exact ⟨by omega, h4⟩
    | false =>
      rw [hb] at h2
      cases h2
      exact ⟨by omega, blt_f hb⟩
theorem fupd_s (f : Nat → Nat) (k v : Nat) : fupd f k v k = v := by
  unfold fupd
  rw [Nat.beq_refl]
  rfl
theorem fupd_n (f : Nat → Nat) {k j : Nat} (v : Nat) (h : ¬ j = k) : fupd f k v j = f j := by
  unfold fupd
  rw [bq_f h]
  rfl
theorem sw_ok {R : Nat → Int32} {f : Nat → Nat} {m x y : Nat} (hR : ∀ q, q < m → R q = nI (f q)) : ∀ q, q < m → upd (upd R x (nI (f y))) y (nI (f x)) q = nI (fupd (fupd f x (f y)) y (f x) q) := by
  intro q hq
  by_cases e : q = y
  · subst e
    rw [pk_us, fupd_s]
  · rw [pk_un e, fupd_n _ _ e]
    by_cases e2 : q = x
    · subst e2
      rw [pk_us, fupd_s]
    · rw [pk_un e2, fupd_n _ _ e2]
      exact hR q hq
section NXT
variable {sc : Scr} {d : Nat} {w : Bool} {s : Nat → Int32} {l : Nat → Int64} {A : Nat → Nat → Int32} {B : Nat → Nat → Int64}
theorem e_nx1 {R : Nat → Int32} {f : Nat → Nat} {m : Nat} (hm : m ≤ 5) (hR : ∀ q, q < m → R q = nI (f q)) (hb : ∀ q, f q < 100) {r : Option Value} {h' : AHp} : ∀ n, n < m → (kdn f n = none → Ev sc d m_M_nextOrder 31 [some (.ref 26), some (.int (nI m)), some (.int (-1)), none, none, none, none] [] (HH w s l (upA A 38 R) B) r h') → (∀ k, kdn f n = some k → Ev sc d m_M_nextOrder 31 [some (.ref 26), some (.int (nI m)), some (.int (nI k)), none, none, none, none] [] (HH w s l (upA A 38 R) B) r h') → Ev sc d m_M_nextOrder 5 [some (.ref 26), some (.int (nI m)), some (.int (nI n + (-1))), none, none, none, none] [.int (nI n + (-1))] (HH w s l (upA A 38 R) B) r h' := by
  intro n
  induction n with
  | zero =>
    intro hn h0 h1
    have z := h0 rfl
    refine ev_ift rfl rfl rfl (i_lt (by decide : nI 0 + (-1) < 0)) ?_
    exact z
  | succ k ih =>
    intro hn h0 h1
    rw [pk_m1]
    refine ev_iff rfl rfl rfl (j_lt (nI_pos (by omega))) ?_
    repeat (first | refine ev_gos 99 rfl ?_ | refine ev_gf2 rfl rfl rfl rfl ?_ | refine ev_gf2 rfl rfl HH_land rfl ?_ | refine ev_gf2 rfl rfl HH_draft rfl ?_ | refine ev_gf2 rfl rfl (by with_reducible assumption) rfl ?_)
    refine ev_ix k rfl rfl rfl (by omega) (by decide) ?_
    rw [upA_at, hR k (by omega)]
    repeat (first | refine ev_gos 99 rfl ?_ | refine ev_gf2 rfl rfl rfl rfl ?_ | refine ev_gf2 rfl rfl HH_land rfl ?_ | refine ev_gf2 rfl rfl HH_draft rfl ?_ | refine ev_gf2 rfl rfl (by with_reducible assumption) rfl ?_)
    refine ev_ix (k + 1) rfl rfl (nI_1 k) (by omega) (by decide) ?_
    rw [upA_at, hR (k + 1) (by omega)]
    have b1 := hb k
    have b2 := hb (k + 1)
    have e : kdn f (k + 1) = bif Nat.blt (f (k + 1)) (f k) then kdn f k else some k := rfl
    rw [e] at h0 h1
    cases hq : Nat.blt (f (k + 1)) (f k) with
    | false =>
      rw [hq] at h1
      refine ev_ift rfl rfl rfl (c_le ((nI_leI (by omega) (by omega)).mpr (by have := blt_f hq; omega))) ?_
      exact h1 k rfl
    | true =>
      rw [hq] at h0 h1
      refine ev_iff rfl rfl rfl (d_le (fun z => by have := (nI_leI (by omega) (by omega)).mp z; have := blt_t hq; omega)) ?_
      repeat (first | refine ev_gos 99 rfl ?_ | refine ev_gf2 rfl rfl rfl rfl ?_ | refine ev_gf2 rfl rfl HH_land rfl ?_ | refine ev_gf2 rfl rfl HH_draft rfl ?_ | refine ev_gf2 rfl rfl (by with_reducible assumption) rfl ?_)
      exact ih (by omega) h0 h1
theorem e_nx2 {R : Nat → Int32} {f : Nat → Nat} {m k : Nat} (hm : m ≤ 5) (hk : k < m) (hR : ∀ q, q < m → R q = nI (f q)) (hb : ∀ q, f q < 100) {r : Option Value} {h' : AHp} : ∀ n, n < m → (∃ j, j ≤ n ∧ ¬ f j < f k) → Ev sc d m_M_nextOrder 62 [some (.ref 26), some (.int (nI m)), some (.int (nI k)), some (.int (nI (jdn f (f k) n))), none, none, none] [] (HH w s l (upA A 38 R) B) r h' → Ev sc d m_M_nextOrder 46 [some (.ref 26), some (.int (nI m)), some (.int (nI k)), some (.int (nI n)), none, none, none] [.int (nI n), .ref 38] (HH w s l (upA A 38 R) B) r h' := by
  intro n
  have bk := hb k
  induction n with
  | zero =>
    intro hn ⟨j, j1, j2⟩ h0
    have e : j = 0 := by omega
    subst e
    have b0 := hb 0
    refine ev_ix 0 rfl rfl rfl (by omega) (by decide) ?_
    rw [upA_at, hR 0 hn]
    repeat (first | refine ev_gos 99 rfl ?_ | refine ev_gf2 rfl rfl rfl rfl ?_ | refine ev_gf2 rfl rfl HH_land rfl ?_ | refine ev_gf2 rfl rfl HH_draft rfl ?_ | refine ev_gf2 rfl rfl (by with_reducible assumption) rfl ?_)
    refine ev_ix k rfl rfl rfl (by omega) (by decide) ?_
    rw [upA_at, hR k hk]
    refine ev_ift rfl rfl rfl (c_ge ((nI_leI (by omega) (by omega)).mpr (by omega))) ?_
    exact h0
  | succ n ih =>
    intro hn ⟨j, j1, j2⟩ h0
    have b0 := hb (n + 1)
    refine ev_ix (n + 1) rfl rfl rfl (by omega) (by decide) ?_
    rw [upA_at, hR (n + 1) hn]
    repeat (first | refine ev_gos 99 rfl ?_ | refine ev_gf2 rfl rfl rfl rfl ?_ | refine ev_gf2 rfl rfl HH_land rfl ?_ | refine ev_gf2 rfl rfl HH_draft rfl ?_ | refine ev_gf2 rfl rfl (by with_reducible assumption) rfl ?_)
    refine ev_ix k rfl rfl rfl (by omega) (by decide) ?_
    rw [upA_at, hR k hk]
    have e : jdn f (f k) (n + 1) = bif Nat.blt (f (n + 1)) (f k) then jdn f (f k) n else n + 1 := rfl
    rw [e] at h0
    cases hq : Nat.blt (f (n + 1)) (f k) with
    | false =>
      rw [hq] at h0
      refine ev_ift rfl rfl rfl (c_ge ((nI_leI (by omega) (by omega)).mpr (by have := blt_f hq; omega))) ?_
      exact h0
    | true =>
      rw [hq] at h0
      have lt := blt_t hq
      refine ev_iff rfl rfl rfl (d_ge (fun z => by have := (nI_leI (by omega) (by omega)).mp z; omega)) ?_
      have hj : ∃ j, j ≤ n ∧ ¬ f j < f k := ⟨j, by
        by_cases ej : j = n + 1
        · subst ej
          exact absurd lt j2
        · omega, j2⟩
      have z := ih (by omega) hj h0
      rw [← pk_m1 n] at z
      repeat (first | refine ev_gos 99 rfl ?_ | refine ev_gf2 rfl rfl rfl rfl ?_ | refine ev_gf2 rfl rfl HH_land rfl ?_ | refine ev_gf2 rfl rfl HH_draft rfl ?_ | refine ev_gf2 rfl rfl (by with_reducible assumption) rfl ?_)
      exact z
theorem e_nx3 {m : Nat} (hm : m ≤ 5) (k j : Int32) : ∀ (n x y : Nat) (R : Nat → Int32) (f : Nat → Nat), (∀ q, q < m → R q = nI (f q)) → y ≤ x + 2 * n → y < m → x ≤ m → ∃ R', (∀ q, q < m → R' q = nI (rvs n f x y q)) ∧ Ev sc d m_M_nextOrder 104 [some (.ref 26), some (.int (nI m)), some (.int k), some (.int j), none, some (.int (nI x)), some (.int (nI y))] [.int (nI y), .int (nI x)] (HH w s l (upA A 38 R) B) (some (.int 1)) (HH w s l (upA A 38 R') B) := by
  intro n
  induction n with
  | zero =>
    intro x y R f hR h1 h2 h3
    refine ⟨R, hR, ?_⟩
    refine ev_ift rfl rfl rfl (c_ge ((nI_leI (by omega) (by omega)).mpr (by omega))) ?_
    repeat (first | refine ev_gos 99 rfl ?_ | refine ev_gf2 rfl rfl rfl rfl ?_ | refine ev_gf2 rfl rfl HH_land rfl ?_ | refine ev_gf2 rfl rfl HH_draft rfl ?_ | refine ev_gf2 rfl rfl (by with_reducible assumption) rfl ?_)
    exact ev_rz rfl (Or.inr rfl) rfl rfl
  | succ n ih =>
    intro x y R f hR h1 h2 h3
    have e : rvs (n + 1) f x y = bif Nat.blt x y then rvs n (fupd (fupd f x (f y)) y (f x)) (x + 1) (y - 1) else f := rfl
    cases hq : Nat.blt x y with
    | false =>
      have nl := blt_f hq
      refine ⟨R, fun q hq2 => by rw [e, hq]; exact hR q hq2, ?_⟩
      refine ev_ift rfl rfl rfl (c_ge ((nI_leI (by omega) (by omega)).mpr (by omega))) ?_
      repeat (first | refine ev_gos 99 rfl ?_ | refine ev_gf2 rfl rfl rfl rfl ?_ | refine ev_gf2 rfl rfl HH_land rfl ?_ | refine ev_gf2 rfl rfl HH_draft rfl ?_ | refine ev_gf2 rfl rfl (by with_reducible assumption) rfl ?_)
      exact ev_rz rfl (Or.inr rfl) rfl rfl
    | true =>
      have lt := blt_t hq
      obtain ⟨R', r1, r2⟩ := ih (x + 1) (y - 1) (upd (upd R x (nI (f y))) y (nI (f x))) (fupd (fupd f x (f y)) y (f x)) (sw_ok hR) (by omega) (by omega) (by omega)
      refine ⟨R', fun q hq2 => by rw [e, hq]; exact r1 q hq2, ?_⟩
      refine ev_iff rfl rfl rfl (d_ge (fun z => by have := (nI_leI (by omega) (by omega)).mp z; omega)) ?_
      repeat (first | refine ev_gos 99 rfl ?_ | refine ev_gf2 rfl rfl rfl rfl ?_ | refine ev_gf2 rfl rfl HH_land rfl ?_ | refine ev_gf2 rfl rfl HH_draft rfl ?_ | refine ev_gf2 rfl rfl (by with_reducible assumption) rfl ?_)
      refine ev_ix x rfl rfl rfl (by omega) (by decide) ?_
      rw [upA_at, hR x (by omega)]
      repeat (first | refine ev_gos 99 rfl ?_ | refine ev_gf2 rfl rfl rfl rfl ?_ | refine ev_gf2 rfl rfl HH_land rfl ?_ | refine ev_gf2 rfl rfl HH_draft rfl ?_ | refine ev_gf2 rfl rfl (by with_reducible assumption) rfl ?_)
      refine ev_ix y rfl rfl rfl (by omega) (by decide) ?_
      rw [upA_at, hR y (by omega)]
      refine iw_38 x rfl rfl (by omega) ?_
      repeat (first | refine ev_gos 99 rfl ?_ | refine ev_gf2 rfl rfl rfl rfl ?_ | refine ev_gf2 rfl rfl HH_land rfl ?_ | refine ev_gf2 rfl rfl HH_draft rfl ?_ | refine ev_gf2 rfl rfl (by with_reducible assumption) rfl ?_)
      refine iw_38 y rfl rfl (by omega) ?_
      have ey : nI (y - 1) = nI y + (-1) := by
        rw [← pk_m1 (y - 1), show y - 1 + 1 = y by omega]
      rw [← nI_1 x, ey] at r2
      repeat (first | refine ev_gos 99 rfl ?_ | refine ev_gf2 rfl rfl rfl rfl ?_ | refine ev_gf2 rfl rfl HH_land rfl ?_ | refine ev_gf2 rfl rfl HH_draft rfl ?_ | refine ev_gf2 rfl rfl (by with_reducible assumption) rfl ?_)
      exact ev_wk2 r2 rfl (by repeat' (first | exact trivial | refine ⟨rfl, ?_⟩))
theorem e_next {R : Nat → Int32} {f : Nat → Nat} {m : Nat} (h1 : 1 ≤ m) (hm : m ≤ 5) (hR : ∀ q, q < m → R q = nI (f q)) (hb : ∀ q, f q < 100) : (nxF f m = none → Ev sc d m_M_nextOrder 0 (iniL 7 [.ref 26, .int (nI m)]) [] (HH w s l (upA A 38 R) B) (some (.int 0)) (HH w s l (upA A 38 R) B)) ∧ (∀ g, nxF f m = some g → ∃ R', (∀ q, q < m → R' q = nI (g q)) ∧ Ev sc d m_M_nextOrder 0 (iniL 7 [.ref 26, .int (nI m)]) [] (HH w s l (upA A 38 R) B) (some (.int 1)) (HH w s l (upA A 38 R') B)) := by
  have e2 : nI m - 2 = nI (m - 1) + (-1) := by
    obtain ⟨q, rfl⟩ : ∃ q, m = q + 1 := ⟨m - 1, by omega⟩
    rw [show q + 1 - 1 = q by omega, ← nI_1]
    rw [Int32.sub_eq_add_neg, Int32.add_assoc]
    rfl
  have e1 : nI m - 1 = nI (m - 1) := by
    obtain ⟨q, rfl⟩ : ∃ q, m = q + 1 := ⟨m - 1, by omega⟩
    rw [nI_pred]
    rfl
  refine ⟨fun hn => ?_, fun g hg => ?_⟩
  · have hk : kdn f (m - 1) = none := by
      unfold nxF at hn
      cases hk : kdn f (m - 1) with
      | none => rfl
      | some k =>
        rw [hk] at hn
        cases hn
    have z := e_nx1 (sc := sc) (d := d) (w := w) (s := s) (l := l) (A := A) (B := B) hm hR hb (r := some (.int 0)) (h' := HH w s l (upA A 38 R) B) (m - 1) (by omega) (fun _ => by
      repeat (first | refine ev_gos 99 rfl ?_ | refine ev_gf2 rfl rfl rfl rfl ?_ | refine ev_gf2 rfl rfl HH_land rfl ?_ | refine ev_gf2 rfl rfl HH_draft rfl ?_ | refine ev_gf2 rfl rfl (by with_reducible assumption) rfl ?_)
      refine ev_iff rfl rfl rfl (by decide : ifB .ge (-1) = false) ?_
      repeat (first | refine ev_gos 99 rfl ?_ | refine ev_gf2 rfl rfl rfl rfl ?_ | refine ev_gf2 rfl rfl HH_land rfl ?_ | refine ev_gf2 rfl rfl HH_draft rfl ?_ | refine ev_gf2 rfl rfl (by with_reducible assumption) rfl ?_)
      exact ev_rz rfl (Or.inl rfl) rfl rfl) (fun k hk2 => by rw [hk] at hk2; cases hk2)
    rw [← e2] at z
    repeat (first | refine ev_gos 99 rfl ?_ | refine ev_gf2 rfl rfl rfl rfl ?_ | refine ev_gf2 rfl rfl HH_land rfl ?_ | refine ev_gf2 rfl rfl HH_draft rfl ?_ | refine ev_gf2 rfl rfl (by with_reducible assumption) rfl ?_)
    exact z
  · unfold nxF at hg
    cases hk : kdn f (m - 1) with
    | none =>
      rw [hk] at hg
      cases hg
    | some k =>
      rw [hk] at hg
      obtain ⟨k1, k2⟩ := kdn_some hk
      have hg2 : some (rvs 5 (fupd (fupd f k (f (jdn f (f k) (m - 1)))) (jdn f (f k) (m - 1)) (f k)) (k + 1) (m - 1)) = some g := hg
      cases hg2
      have hjl : ∀ n, jdn f (f k) n ≤ n := by
        intro n
        induction n with
        | zero => exact Nat.le_refl _
        | succ n ih =>
          show (bif Nat.blt (f (n + 1)) (f k) then jdn f (f k) n else n + 1) ≤ n + 1
          cases Nat.blt (f (n + 1)) (f k)
          · exact Nat.le_refl _
          · exact Nat.le_succ_of_le ih
      have hj := hjl (m - 1)
      generalize hjj : jdn f (f k) (m - 1) = j at hj
      obtain ⟨R', r1, r2⟩ := e_nx3 (sc := sc) (d := d) (w := w) (s := s) (l := l) (A := A) (B := B) hm (nI k) (nI j) 5 (k + 1) (m - 1) (upd (upd R k (nI (f j))) j (nI (f k))) (fupd (fupd f k (f j)) j (f k)) (sw_ok hR) (by omega) (by omega) (by omega)
      refine ⟨R', r1, ?_⟩
      have z := e_nx1 (sc := sc) (d := d) (w := w) (s := s) (l := l) (A := A) (B := B) hm hR hb (r := some (.int 1)) (h' := HH w s l (upA A 38 R') B) (m - 1) (by omega) (fun hk2 => by rw [hk] at hk2; cases hk2) (fun k3 hk2 => by
        rw [hk] at hk2
        cases hk2
        repeat (first | refine ev_gos 99 rfl ?_ | refine ev_gf2 rfl rfl rfl rfl ?_ | refine ev_gf2 rfl rfl HH_land rfl ?_ | refine ev_gf2 rfl rfl HH_draft rfl ?_ | refine ev_gf2 rfl rfl (by with_reducible assumption) rfl ?_)
        refine ev_ift rfl rfl rfl (i_ge (ge0 (nI_pos (by omega)))) ?_
        repeat (first | refine ev_gos 99 rfl ?_ | refine ev_gf2 rfl rfl rfl rfl ?_ | refine ev_gf2 rfl rfl HH_land rfl ?_ | refine ev_gf2 rfl rfl HH_draft rfl ?_ | refine ev_gf2 rfl rfl (by with_reducible assumption) rfl ?_)
        rw [show (fun x y => x - y) (nI m) 1 = nI (m - 1) from e1]
        refine e_nx2 hm (by omega) hR hb (m - 1) (by omega) ⟨k + 1, by omega, k2⟩ ?_
        rw [hjj]
        repeat (first | refine ev_gos 99 rfl ?_ | refine ev_gf2 rfl rfl rfl rfl ?_ | refine ev_gf2 rfl rfl HH_land rfl ?_ | refine ev_gf2 rfl rfl HH_draft rfl ?_ | refine ev_gf2 rfl rfl (by with_reducible assumption) rfl ?_)
        refine ev_ix k rfl rfl rfl (by omega) (by decide) ?_
        rw [upA_at, hR k (by omega)]
        repeat (first | refine ev_gos 99 rfl ?_ | refine ev_gf2 rfl rfl rfl rfl ?_ | refine ev_gf2 rfl rfl HH_land rfl ?_ | refine ev_gf2 rfl rfl HH_draft rfl ?_ | refine ev_gf2 rfl rfl (by with_reducible assumption) rfl ?_)
        refine ev_ix j rfl rfl rfl (by omega) (by decide) ?_
        rw [upA_at, hR j (by omega)]
        refine iw_38 k rfl rfl (by omega) ?_
        repeat (first | refine ev_gos 99 rfl ?_ | refine ev_gf2 rfl rfl rfl rfl ?_ | refine ev_gf2 rfl rfl HH_land rfl ?_ | refine ev_gf2 rfl rfl HH_draft rfl ?_ | refine ev_gf2 rfl rfl (by with_reducible assumption) rfl ?_)
        refine iw_38 j rfl rfl (by omega) ?_
        repeat (first | refine ev_gos 99 rfl ?_ | refine ev_gf2 rfl rfl rfl rfl ?_ | refine ev_gf2 rfl rfl HH_land rfl ?_ | refine ev_gf2 rfl rfl HH_draft rfl ?_ | refine ev_gf2 rfl rfl (by with_reducible assumption) rfl ?_)
        rw [← e1, ← nI_1 k] at r2
        exact ev_wk2 r2 rfl (by repeat' (first | exact trivial | refine ⟨rfl, ?_⟩)))
      rw [← e2] at z
      repeat (first | refine ev_gos 99 rfl ?_ | refine ev_gf2 rfl rfl rfl rfl ?_ | refine ev_gf2 rfl rfl HH_land rfl ?_ | refine ev_gf2 rfl rfl HH_draft rfl ?_ | refine ev_gf2 rfl rfl (by with_reducible assumption) rfl ?_)
      exact z
end NXT
theorem mapN_len (g : Nat → Nat) : ∀ n, (mapN g n).length = n
  | 0 => rfl
  | n + 1 => by
    show (mapN g n ++ [g n]).length = n + 1
    rw [List.length_append, mapN_len g n]
    rfl
theorem gAt_app : ∀ (L M : List Nat) (k : Nat), gAt (L ++ M) k = if k < L.length then gAt L k else gAt M (k - L.length)
  | [], M, k => by
    rw [if_neg (by exact Nat.not_lt_zero k)]
    rfl
  | x :: L, M, 0 => by
    rw [if_pos (show 0 < (x :: L).length from Nat.succ_pos _)]
    rfl
  | x :: L, M, k + 1 => by
    show gAt (L ++ M) k = _
    rw [gAt_app L M k]
    show (if k < L.length then _ else _) = if k + 1 < L.length + 1 then gAt L k else gAt M (k + 1 - (L.length + 1))
    by_cases h : k < L.length
    · rw [if_pos h, if_pos (by omega)]
    · rw [if_neg h, if_neg (by omega), show k + 1 - (L.length + 1) = k - L.length by omega]
theorem gAt_mapN (g : Nat → Nat) : ∀ n k, k < n → gAt (mapN g n) k = g k
  | 0, k, h => absurd h (Nat.not_lt_zero k)
  | n + 1, k, h => by
    show gAt (mapN g n ++ [g n]) k = g k
    rw [gAt_app, mapN_len]
    by_cases q : k < n
    · rw [if_pos q]
      exact gAt_mapN g n k q
    · rw [if_neg q, show k = n by omega, Nat.sub_self]
      rfl
/-- the row holds the order -/
def RW (R : Nat → Int32) (L : List Nat) : Prop := ∀ k, k < L.length → R k = nI (gAt L k)
theorem e_nextL {sc : Scr} {d : Nat} {w : Bool} {s : Nat → Int32} {l : Nat → Int64} {A : Nat → Nat → Int32} {B : Nat → Nat → Int64} {R : Nat → Int32} {L : List Nat} {m : Nat} (hL : L.length = m) (h1 : 1 ≤ m) (hm : m ≤ 5) (hR : RW R L) (hb : ∀ q, gAt L q < 100) : (nxL L = none → Ev sc d m_M_nextOrder 0 (iniL 7 [.ref 26, .int (nI m)]) [] (HH w s l (upA A 38 R) B) (some (.int 0)) (HH w s l (upA A 38 R) B)) ∧ (∀ M, nxL L = some M → ∃ R', RW R' M ∧ M.length = m ∧ Ev sc d m_M_nextOrder 0 (iniL 7 [.ref 26, .int (nI m)]) [] (HH w s l (upA A 38 R) B) (some (.int 1)) (HH w s l (upA A 38 R') B)) := by
  subst hL
  obtain ⟨z1, z2⟩ := e_next (sc := sc) (d := d) (w := w) (s := s) (l := l) (A := A) (B := B) h1 hm hR hb
  refine ⟨fun hn => ?_, fun M hM => ?_⟩
  · refine z1 ?_
    unfold nxL at hn
    cases h : nxF (gAt L) L.length with
    | none => rfl
    | some g =>
      rw [h] at hn
      cases hn
  · unfold nxL at hM
    cases h : nxF (gAt L) L.length with
    | none =>
      rw [h] at hM
      cases hM
    | some g =>
      rw [h] at hM
      have hM2 : some (mapN g L.length) = some M := hM
      cases hM2
      obtain ⟨R', r1, r2⟩ := z2 g h
      refine ⟨R', fun k hk => ?_, mapN_len g _, r2⟩
      rw [mapN_len] at hk
      rw [gAt_mapN g _ k hk]
      exact r1 k hk
