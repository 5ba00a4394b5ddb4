/-! the reader: clauses -/
def nV (t : Nat → Int32) (n i : Nat) : Int32 := vlN t (skN t n i) (dgN t n (skN t n i) - skN t n i)
def nE (t : Nat → Int32) (n i : Nat) : Nat := dgN t n (skN t n i)
def nmC (t : Nat → Int32) (n i : Nat) (x y : Int32) : Nat := if nE t n i = skN t n i then 1 else if 3 < nE t n i - skN t n i ∨ nV t n i < x ∨ y < nV t n i then 2 else 0
def enC (t : Nat → Int32) (n i : Nat) : Nat := if skN t n i < n ∧ t (skN t n i) = 59 then 0 else 1
theorem nE_b (t : Nat → Int32) {n i : Nat} (h : i ≤ n) : skN t n i ≤ nE t n i ∧ nE t n i ≤ n := dgN_b t (skN_b t h).2
theorem cm_facts (r : RS) (a b : Int32) : (cmR r a b).1 1 = (if r.1 1 = 0 then a else r.1 1) ∧ (cmR r a b).1 2 = (if r.1 1 = 0 then b else r.1 2) ∧ (∀ q, ¬ q = 1 → ¬ q = 2 → (cmR r a b).1 q = r.1 q) ∧ (cmR r a b).2 = r.2 := by
  unfold cmR
  by_cases h : r.1 1 = 0
  · rw [if_pos h, if_pos h, if_pos h]
    exact ⟨rfl, rfl, fun q h1 h2 => by show upA (upA r.1 1 a) 2 b q = _; rw [upA_ne _ _ h2, upA_ne _ _ h1], rfl⟩
  · rw [if_neg h, if_neg h, if_neg h]
    exact ⟨rfl, rfl, fun _ _ _ => rfl, rfl⟩
theorem nm_eq (t : Nat → Int32) (n : Nat) (r : RS) (i : Nat) (x y : Int32) : nmR t n r i x y = if nmC t n i x y = 0 then sR (sR r 4 (nI (skN t n i))) 3 (nI (nE t n i)) else cmR (sR (sR r 4 (nI (skN t n i))) 3 (nI (nE t n i))) (nI (nmC t n i x y)) (nI (skN t n i)) := by
  have e0 : nmR t n r i x y = if nE t n i = skN t n i then cmR (sR (sR r 4 (nI (skN t n i))) 3 (nI (nE t n i))) 1 (nI (nE t n i)) else if 3 < nE t n i - skN t n i ∨ nV t n i < x ∨ y < nV t n i then cmR (sR (sR r 4 (nI (skN t n i))) 3 (nI (nE t n i))) 2 (nI (skN t n i)) else sR (sR r 4 (nI (skN t n i))) 3 (nI (nE t n i)) := rfl
  rw [e0]
  unfold nmC
  by_cases h : nE t n i = skN t n i
  · rw [if_pos h, if_pos h, if_neg (by decide), h]
    rfl
  · rw [if_neg h, if_neg h]
    by_cases h2 : 3 < nE t n i - skN t n i ∨ nV t n i < x ∨ y < nV t n i
    · rw [if_pos h2, if_pos h2, if_neg (by decide)]
      rfl
    · rw [if_neg h2, if_neg h2, if_pos rfl]
theorem nmC_lt (t : Nat → Int32) (n i : Nat) (x y : Int32) : nmC t n i x y < 3 := by
  unfold nmC
  split
  · decide
  · split <;> decide
theorem nm_fn (t : Nat → Int32) (n : Nat) (r : RS) (i : Nat) (x y : Int32) : (nmR t n r i x y).1 1 = if r.1 1 = 0 then nI (nmC t n i x y) else r.1 1 := by
  rw [nm_eq]
  by_cases h : nmC t n i x y = 0
  · rw [if_pos h, h]
    show r.1 1 = _
    split
    · assumption
    · rfl
  · rw [if_neg h, (cm_facts _ _ _).1]
    rfl
theorem nm_fp (t : Nat → Int32) (n : Nat) (r : RS) (i : Nat) (x y : Int32) : (nmR t n r i x y).1 2 = if r.1 1 = 0 ∧ ¬ nmC t n i x y = 0 then nI (skN t n i) else r.1 2 := by
  rw [nm_eq]
  by_cases h : nmC t n i x y = 0
  · rw [if_pos h, if_neg (fun z => z.2 h)]
    rfl
  · rw [if_neg h, (cm_facts _ _ _).2.1]
    show (if r.1 1 = 0 then nI (skN t n i) else r.1 2) = _
    by_cases h2 : r.1 1 = 0
    · rw [if_pos h2, if_pos (show r.1 1 = 0 ∧ ¬ nmC t n i x y = 0 from ⟨h2, h⟩)]
    · rw [if_neg h2, if_neg (show ¬ (r.1 1 = 0 ∧ ¬ nmC t n i x y = 0) from fun z => h2 z.1)]
theorem nm_q (t : Nat → Int32) (n : Nat) (r : RS) (i : Nat) (x y : Int32) {q : Nat} (h1 : ¬ q = 1) (h2 : ¬ q = 2) (h3 : ¬ q = 3) (h4 : ¬ q = 4) : (nmR t n r i x y).1 q = r.1 q := by
  have e : (sR (sR r 4 (nI (skN t n i))) 3 (nI (nE t n i))).1 q = r.1 q := by
    show upA (upA r.1 4 _) 3 _ q = _
    rw [upA_ne _ _ h3, upA_ne _ _ h4]
  rw [nm_eq]
  split
  · exact e
  · rw [(cm_facts _ _ _).2.2.1 q h1 h2, e]
theorem nm_pl (t : Nat → Int32) (n : Nat) (r : RS) (i : Nat) (x y : Int32) : (nmR t n r i x y).1 3 = nI (nE t n i) := by
  rw [nm_eq]
  split
  · rfl
  · rw [(cm_facts _ _ _).2.2.1 3 (by decide) (by decide)]
    rfl
theorem nm_np (t : Nat → Int32) (n : Nat) (r : RS) (i : Nat) (x y : Int32) : (nmR t n r i x y).1 4 = nI (skN t n i) := by
  rw [nm_eq]
  split
  · rfl
  · rw [(cm_facts _ _ _).2.2.1 4 (by decide) (by decide)]
    rfl
theorem nm_2 (t : Nat → Int32) (n : Nat) (r : RS) (i : Nat) (x y : Int32) : (nmR t n r i x y).2 = r.2 := by
  rw [nm_eq]
  split
  · rfl
  · rw [(cm_facts _ _ _).2.2.2]
    rfl
theorem nm_ok {t : Nat → Int32} {n : Nat} {r : RS} {i : Nat} {x y : Int32} (h : (nmR t n r i x y).1 1 = 0) : r.1 1 = 0 ∧ nmC t n i x y = 0 := by
  rw [nm_fn] at h
  by_cases h1 : r.1 1 = 0
  · rw [if_pos h1] at h
    exact ⟨h1, (nI_eq (b := 0) (by have := nmC_lt t n i x y; omega) (by decide)).mp h⟩
  · rw [if_neg h1] at h
    exact absurd h h1
theorem nm_rng {t : Nat → Int32} {n i : Nat} {x y : Int32} (h : nmC t n i x y = 0) : ¬ nV t n i < x ∧ ¬ y < nV t n i := by
  unfold nmC at h
  by_cases h1 : nE t n i = skN t n i
  · rw [if_pos h1] at h
    cases h
  · rw [if_neg h1] at h
    by_cases h2 : 3 < nE t n i - skN t n i ∨ nV t n i < x ∨ y < nV t n i
    · rw [if_pos h2] at h
      cases h
    · exact ⟨fun z => h2 (Or.inr (Or.inl z)), fun z => h2 (Or.inr (Or.inr z))⟩
theorem rngN {v : Int32} {a b : Nat} (ha : a < 2 ^ 31) (hb : b < 2 ^ 31) (h1 : ¬ v < nI a) (h2 : ¬ nI b < v) : ∃ k, a ≤ k ∧ k ≤ b ∧ v = nI k := by
  rw [Int32.lt_iff_toInt_lt, nI_toInt ha] at h1
  rw [Int32.lt_iff_toInt_lt, nI_toInt hb] at h2
  obtain ⟨k, k1, k2⟩ := nI_of (x := v) (by rw [Int32.lt_iff_toInt_lt]; show ¬ v.toInt < 0; omega)
  rw [k2, nI_toInt k1] at h1 h2
  exact ⟨k, by omega, by omega, k2⟩
def sdR (t : Nat → Int32) (n : Nat) (r : RS) (i : Nat) : RS :=
  let r1 := if r.1 19 = 0 then r else cmR r 3 (nI (i - 1))
  let r2 := nmR t n r1 i 2 7
  let r3 := nmR t n r2 (nE t n i) 2 7
  if r3.1 1 = 0 then msR r3 (nV t n i).toNatClampNeg (nV t n (nE t n i)).toNatClampNeg else r3
def psR (t : Nat → Int32) (n : Nat) (r : RS) (i : Nat) : RS :=
  let r1 := if r.1 21 < 7 then r else cmR r 3 (nI (i - 1))
  let r2 := nmR t n r1 i 0 4
  if r2.1 1 = 0 then sR (sRk r2 (upd r.2.2.1 (r.1 21).toNatClampNeg (nV t n i))) 21 (r.1 21 + 1) else r2
def wdR (t : Nat → Int32) (n : Nat) (r : RS) (i : Nat) : RS :=
  let r1 := if r.1 5 = 0 then r else cmR r 3 (nI (i - 1))
  let r2 := nmR t n r1 i 0 4
  if r2.1 1 = 0 then sR (sR r2 22 (nV t n i)) 5 1 else r2
def adR (r : RS) (x : Int64) : RS := sRl (if r.2.1 7 &&& x = 0 then r else cmR r 4 (r.1 4)) 7 (r.2.1 7 ||| x)
def rkR (t : Nat → Int32) (n : Nat) (r : RS) (i : Nat) : RS :=
  let r1 := if pop (r.2.1 7) < 8 then r else cmR r 3 (nI (i - 1))
  let r2 := nmR t n r1 i 0 (r.1 19 - 1)
  let r3 := nmR t n r2 (nE t n i) 0 (r.1 20 - 1)
  if r3.1 1 = 0 then adR r3 ((1 : Int64) <<< ((r.1 19 * nV t n (nE t n i) + nV t n i).toInt64 &&& 63)) else r3
section CLS
variable {sc : Scr} {d : Nat} {w : Bool} {s : Nat → Int32} {l : Nat → Int64} {A : Nat → Nat → Int32} {B : Nat → Nat → Int64} {r : RS} {t : Nat → Int32} {n : Nat}
theorem nv_0 {i : Nat} {x y : Int32} (h : (nmR t n r i x y).1 1 = 0) : nvR t n r i x y = nV t n i := by
  unfold nvR
  rw [if_pos h]
  rfl
theorem e_readSides (ht : A 2 = t) (hs : s 0 = nI n) (hn : n ≤ 240) {i : Nat} (h1 : 1 ≤ i) (hi : i ≤ n) (hp : r.1 3 = nI i) (h5 : r.1 19 = 0 → r.2.1 5 = 0 ∧ r.2.1 6 = 0) : Ev sc (d + 2) m_R_readSides 0 (iniL 4 [.ref 1, .ref (wL (!w))]) [] (DR w s l A B r) none (DR w s l A B (sdR t n r i)) := by
  have key : ∀ r1 : RS, r1.1 3 = nI i → (r1.1 1 = 0 → r1.2.1 5 = 0 ∧ r1.2.1 6 = 0) → Ev sc (d + 2) m_R_readSides 18 (iniL 4 [.ref 1, .ref (wL (!w))]) [] (DR w s l A B r1) none (DR w s l A B (let r2 := nmR t n r1 i 2 7; let r3 := nmR t n r2 (nE t n i) 2 7; if r3.1 1 = 0 then msR r3 (nV t n i).toNatClampNeg (nV t n (nE t n i)).toNatClampNeg else r3)) := by
    intro r1 hp1 h51
    have he := nE_b t hi
    repeat (first | refine ev_gos 99 rfl ?_ | refine ev_gf2 rfl rfl rfl rfl ?_ | refine ev_gf2 rfl rfl HH_land rfl ?_ | refine ev_gf2 rfl rfl HH_draft rfl ?_ | refine ev_gf2 rfl rfl (by with_reducible assumption) rfl ?_)
    refine ev_cv rfl rfl rfl (e_readNumber ht hs hn hi hp1 2 7) ?_
    repeat (first | refine ev_gos 99 rfl ?_ | refine ev_gf2 rfl rfl rfl rfl ?_ | refine ev_gf2 rfl rfl HH_land rfl ?_ | refine ev_gf2 rfl rfl HH_draft rfl ?_ | refine ev_gf2 rfl rfl (by with_reducible assumption) rfl ?_)
    refine ev_cv rfl rfl rfl (e_readNumber ht hs hn (i := nE t n i) he.2 (nm_pl _ _ _ _ _ _) 2 7) ?_
    repeat (first | refine ev_gos 99 rfl ?_ | refine ev_gf2 rfl rfl rfl rfl ?_ | refine ev_gf2 rfl rfl HH_land rfl ?_ | refine ev_gf2 rfl rfl HH_draft rfl ?_ | refine ev_gf2 rfl rfl (by with_reducible assumption) rfl ?_)
    dsimp only
    by_cases h0 : (nmR t n (nmR t n r1 i 2 7) (nE t n i) 2 7).1 1 = 0
    · rw [if_pos h0]
      refine ev_iff rfl rfl rfl (j_ne h0) ?_
      obtain ⟨o1, o2⟩ := nm_ok h0
      obtain ⟨o3, o4⟩ := nm_ok o1
      obtain ⟨a, a1, a2, a3⟩ := rngN (v := nV t n i) (a := 2) (b := 7) (by decide) (by decide) (nm_rng o4).1 (nm_rng o4).2
      obtain ⟨b, b1, b2, b3⟩ := rngN (v := nV t n (nE t n i)) (a := 2) (b := 7) (by decide) (by decide) (nm_rng o2).1 (nm_rng o2).2
      rw [nv_0 o1, nv_0 h0, a3, b3, nI_clamp (by omega), nI_clamp (by omega)]
      repeat (first | refine ev_gos 99 rfl ?_ | refine ev_gf2 rfl rfl rfl rfl ?_ | refine ev_gf2 rfl rfl HH_land rfl ?_ | refine ev_gf2 rfl rfl HH_draft rfl ?_ | refine ev_gf2 rfl rfl (by with_reducible assumption) rfl ?_)
      refine ev_cv rfl rfl HH_draft (e_measure (W := a) (H := b) (by omega) a2 b2 (by rw [nm_2, nm_2]; exact (h51 o3).1) (by rw [nm_2, nm_2]; exact (h51 o3).2)) ?_
      exact ev_rv rfl rfl
    · rw [if_neg h0]
      refine ev_ift rfl rfl rfl (i_ne h0) ?_
      exact ev_rv rfl rfl
  unfold sdR
  repeat (first | refine ev_gos 99 rfl ?_ | refine ev_gf2 rfl rfl rfl rfl ?_ | refine ev_gf2 rfl rfl HH_land rfl ?_ | refine ev_gf2 rfl rfl HH_draft rfl ?_ | refine ev_gf2 rfl rfl (by with_reducible assumption) rfl ?_)
  by_cases h0 : r.1 19 = 0
  · rw [if_pos h0]
    refine ev_ift rfl rfl rfl (i_eq h0) ?_
    exact key r hp (fun _ => h5 h0)
  · rw [if_neg h0]
    refine ev_iff rfl rfl rfl (j_eq h0) ?_
    repeat (first | refine ev_gos 99 rfl ?_ | refine ev_gf2 rfl rfl rfl rfl ?_ | refine ev_gf2 rfl rfl HH_land rfl ?_ | refine ev_gf2 rfl rfl HH_draft rfl ?_ | refine ev_gf2 rfl rfl (by with_reducible assumption) rfl ?_)
    refine ev_cv rfl rfl rfl (e_complain 3 (r.1 3 - 1)) ?_
    have e : r.1 3 - 1 = nI (i - 1) := by rw [hp, show (1 : Int32) = nI 1 from rfl, pk_sub h1]
    rw [e]
    exact key (cmR r 3 (nI (i - 1))) (by rw [(cm_facts _ _ _).2.2.1 3 (by decide) (by decide)]; exact hp) (fun z => absurd z (cm_fn r _ (by decide)))
theorem e_readPerson (ht : A 2 = t) (hs : s 0 = nI n) (hn : n ≤ 240) {i P : Nat} (h1 : 1 ≤ i) (hi : i ≤ n) (hp : r.1 3 = nI i) (hP : r.1 21 = nI P) (hP7 : P ≤ 7) : Ev sc (d + 2) m_R_readPerson 0 (iniL 3 [.ref 1, .ref (wL (!w))]) [] (DR w s l A B r) none (DR w s l A B (psR t n r i)) := by
  have key : ∀ r1 : RS, r1.1 3 = nI i → r1.1 21 = r.1 21 → r1.2 = r.2 → (r1.1 1 = 0 → P < 7) → Ev sc (d + 2) m_R_readPerson 20 (iniL 3 [.ref 1, .ref (wL (!w))]) [] (DR w s l A B r1) none (DR w s l A B (let r2 := nmR t n r1 i 0 4; if r2.1 1 = 0 then sR (sRk r2 (upd r.2.2.1 (r.1 21).toNatClampNeg (nV t n i))) 21 (r.1 21 + 1) else r2)) := by
    intro r1 hp1 h21 h2 h51
    repeat (first | refine ev_gos 99 rfl ?_ | refine ev_gf2 rfl rfl rfl rfl ?_ | refine ev_gf2 rfl rfl HH_land rfl ?_ | refine ev_gf2 rfl rfl HH_draft rfl ?_ | refine ev_gf2 rfl rfl (by with_reducible assumption) rfl ?_)
    refine ev_cv rfl rfl rfl (e_readNumber ht hs hn hi hp1 0 4) ?_
    repeat (first | refine ev_gos 99 rfl ?_ | refine ev_gf2 rfl rfl rfl rfl ?_ | refine ev_gf2 rfl rfl HH_land rfl ?_ | refine ev_gf2 rfl rfl HH_draft rfl ?_ | refine ev_gf2 rfl rfl (by with_reducible assumption) rfl ?_)
    dsimp only
    have e21 : (nmR t n r1 i 0 4).1 21 = r.1 21 := by rw [nm_q _ _ _ _ _ _ (by decide) (by decide) (by decide) (by decide), h21]
    by_cases h0 : (nmR t n r1 i 0 4).1 1 = 0
    · rw [if_pos h0]
      refine ev_iff rfl rfl rfl (j_ne h0) ?_
      obtain ⟨o3, o4⟩ := nm_ok h0
      have hP6 := h51 o3
      repeat (first | refine ev_gos 99 rfl ?_ | refine ev_gf2 rfl rfl rfl rfl ?_ | refine ev_gf2 rfl rfl HH_land rfl ?_ | refine ev_gf2 rfl rfl HH_draft rfl ?_ | refine ev_gf2 rfl rfl (by with_reducible assumption) rfl ?_)
      refine sD_k rfl (by show inB ((nmR t n r1 i 0 4).1 21) 7 = true; rw [e21, hP]; exact inI hP6 (by decide)) ?_
      repeat (first | refine ev_gos 99 rfl ?_ | refine ev_gf2 rfl rfl rfl rfl ?_ | refine ev_gf2 rfl rfl HH_land rfl ?_ | refine ev_gf2 rfl rfl HH_draft rfl ?_ | refine ev_gf2 rfl rfl (by with_reducible assumption) rfl ?_)
      refine pD_21 rfl ?_
      refine ev_rv rfl ?_
      show DR w s l A B (sR (sRk (nmR t n r1 i 0 4) (upd (nmR t n r1 i 0 4).2.2.1 ((nmR t n r1 i 0 4).1 21).toNatClampNeg (nvR t n r1 i 0 4))) 21 ((nmR t n r1 i 0 4).1 21 + 1)) = _
      rw [e21, nv_0 h0, nm_2, h2]
    · rw [if_neg h0]
      refine ev_ift rfl rfl rfl (i_ne h0) ?_
      exact ev_rv rfl rfl
  unfold psR
  repeat (first | refine ev_gos 99 rfl ?_ | refine ev_gf2 rfl rfl rfl rfl ?_ | refine ev_gf2 rfl rfl HH_land rfl ?_ | refine ev_gf2 rfl rfl HH_draft rfl ?_ | refine ev_gf2 rfl rfl (by with_reducible assumption) rfl ?_)
  by_cases h0 : r.1 21 < 7
  · rw [if_pos h0]
    refine ev_ift rfl rfl rfl (c_lt h0) ?_
    exact key r hp rfl rfl (fun _ => by rw [hP] at h0; exact (nI_ltI (b := 7) (by omega) (by decide)).mp h0)
  · rw [if_neg h0]
    refine ev_iff rfl rfl rfl (d_lt h0) ?_
    repeat (first | refine ev_gos 99 rfl ?_ | refine ev_gf2 rfl rfl rfl rfl ?_ | refine ev_gf2 rfl rfl HH_land rfl ?_ | refine ev_gf2 rfl rfl HH_draft rfl ?_ | refine ev_gf2 rfl rfl (by with_reducible assumption) rfl ?_)
    refine ev_cv rfl rfl rfl (e_complain 3 (r.1 3 - 1)) ?_
    have e : r.1 3 - 1 = nI (i - 1) := by rw [hp, show (1 : Int32) = nI 1 from rfl, pk_sub h1]
    rw [e]
    exact key (cmR r 3 (nI (i - 1))) (by rw [(cm_facts _ _ _).2.2.1 3 (by decide) (by decide)]; exact hp) ((cm_facts _ _ _).2.2.1 21 (by decide) (by decide)) (cm_facts _ _ _).2.2.2 (fun z => absurd z (cm_fn r _ (by decide)))
theorem e_readWind (ht : A 2 = t) (hs : s 0 = nI n) (hn : n ≤ 240) {i : Nat} (h1 : 1 ≤ i) (hi : i ≤ n) (hp : r.1 3 = nI i) : Ev sc (d + 2) m_R_readWind 0 (iniL 3 [.ref 1, .ref (wL (!w))]) [] (DR w s l A B r) none (DR w s l A B (wdR t n r i)) := by
  have key : ∀ r1 : RS, r1.1 3 = nI i → Ev sc (d + 2) m_R_readWind 18 (iniL 3 [.ref 1, .ref (wL (!w))]) [] (DR w s l A B r1) none (DR w s l A B (let r2 := nmR t n r1 i 0 4; if r2.1 1 = 0 then sR (sR r2 22 (nV t n i)) 5 1 else r2)) := by
    intro r1 hp1
    repeat (first | refine ev_gos 99 rfl ?_ | refine ev_gf2 rfl rfl rfl rfl ?_ | refine ev_gf2 rfl rfl HH_land rfl ?_ | refine ev_gf2 rfl rfl HH_draft rfl ?_ | refine ev_gf2 rfl rfl (by with_reducible assumption) rfl ?_)
    refine ev_cv rfl rfl rfl (e_readNumber ht hs hn hi hp1 0 4) ?_
    repeat (first | refine ev_gos 99 rfl ?_ | refine ev_gf2 rfl rfl rfl rfl ?_ | refine ev_gf2 rfl rfl HH_land rfl ?_ | refine ev_gf2 rfl rfl HH_draft rfl ?_ | refine ev_gf2 rfl rfl (by with_reducible assumption) rfl ?_)
    dsimp only
    by_cases h0 : (nmR t n r1 i 0 4).1 1 = 0
    · rw [if_pos h0]
      refine ev_iff rfl rfl rfl (j_ne h0) ?_
      repeat (first | refine ev_gos 99 rfl ?_ | refine ev_gf2 rfl rfl rfl rfl ?_ | refine ev_gf2 rfl rfl HH_land rfl ?_ | refine ev_gf2 rfl rfl HH_draft rfl ?_ | refine ev_gf2 rfl rfl (by with_reducible assumption) rfl ?_)
      refine pD_22 rfl ?_
      repeat (first | refine ev_gos 99 rfl ?_ | refine ev_gf2 rfl rfl rfl rfl ?_ | refine ev_gf2 rfl rfl HH_land rfl ?_ | refine ev_gf2 rfl rfl HH_draft rfl ?_ | refine ev_gf2 rfl rfl (by with_reducible assumption) rfl ?_)
      refine pD_5 (Or.inr rfl) rfl ?_
      refine ev_rv rfl ?_
      show DR w s l A B (sR (sR (nmR t n r1 i 0 4) 22 (nvR t n r1 i 0 4)) 5 1) = _
      rw [nv_0 h0]
    · rw [if_neg h0]
      refine ev_ift rfl rfl rfl (i_ne h0) ?_
      exact ev_rv rfl rfl
  unfold wdR
  repeat (first | refine ev_gos 99 rfl ?_ | refine ev_gf2 rfl rfl rfl rfl ?_ | refine ev_gf2 rfl rfl HH_land rfl ?_ | refine ev_gf2 rfl rfl HH_draft rfl ?_ | refine ev_gf2 rfl rfl (by with_reducible assumption) rfl ?_)
  by_cases h0 : r.1 5 = 0
  · rw [if_pos h0]
    refine ev_ift rfl rfl rfl (i_eq h0) ?_
    exact key r hp
  · rw [if_neg h0]
    refine ev_iff rfl rfl rfl (j_eq h0) ?_
    repeat (first | refine ev_gos 99 rfl ?_ | refine ev_gf2 rfl rfl rfl rfl ?_ | refine ev_gf2 rfl rfl HH_land rfl ?_ | refine ev_gf2 rfl rfl HH_draft rfl ?_ | refine ev_gf2 rfl rfl (by with_reducible assumption) rfl ?_)
    refine ev_cv rfl rfl rfl (e_complain 3 (r.1 3 - 1)) ?_
    have e : r.1 3 - 1 = nI (i - 1) := by rw [hp, show (1 : Int32) = nI 1 from rfl, pk_sub h1]
    rw [e]
    exact key (cmR r 3 (nI (i - 1))) (by rw [(cm_facts _ _ _).2.2.1 3 (by decide) (by decide)]; exact hp)
theorem e_addRock (x : Int64) : Ev sc (d + 1) m_R_addRock 0 (iniL 4 [.ref 1, .ref (wL (!w)), .long x]) [] (DR w s l A B r) none (DR w s l A B (adR r x)) := by
  unfold adR
  repeat (first | refine ev_gos 99 rfl ?_ | refine ev_gf2 rfl rfl rfl rfl ?_ | refine ev_gf2 rfl rfl HH_land rfl ?_ | refine ev_gf2 rfl rfl HH_draft rfl ?_ | refine ev_gf2 rfl rfl (by with_reducible assumption) rfl ?_)
  by_cases h0 : r.2.1 7 &&& x = 0
  · rw [if_pos h0]
    refine ev_ift rfl rfl rfl (i_eq (lc_eq.mpr h0)) ?_
    repeat (first | refine ev_gos 99 rfl ?_ | refine ev_gf2 rfl rfl rfl rfl ?_ | refine ev_gf2 rfl rfl HH_land rfl ?_ | refine ev_gf2 rfl rfl HH_draft rfl ?_ | refine ev_gf2 rfl rfl (by with_reducible assumption) rfl ?_)
    refine pDl_7 rfl ?_
    exact ev_rv rfl rfl
  · rw [if_neg h0]
    refine ev_iff rfl rfl rfl (j_eq (fun z => h0 (lc_eq.mp z))) ?_
    repeat (first | refine ev_gos 99 rfl ?_ | refine ev_gf2 rfl rfl rfl rfl ?_ | refine ev_gf2 rfl rfl HH_land rfl ?_ | refine ev_gf2 rfl rfl HH_draft rfl ?_ | refine ev_gf2 rfl rfl (by with_reducible assumption) rfl ?_)
    refine ev_cv rfl rfl rfl (e_complain 4 (r.1 4)) ?_
    repeat (first | refine ev_gos 99 rfl ?_ | refine ev_gf2 rfl rfl rfl rfl ?_ | refine ev_gf2 rfl rfl HH_land rfl ?_ | refine ev_gf2 rfl rfl HH_draft rfl ?_ | refine ev_gf2 rfl rfl (by with_reducible assumption) rfl ?_)
    refine pDl_7 rfl ?_
    refine ev_rv rfl ?_
    show DR w s l A B (sRl (cmR r 4 (r.1 4)) 7 ((cmR r 4 (r.1 4)).2.1 7 ||| x)) = _
    rw [(cm_facts _ _ _).2.2.2]
theorem e_readRock (ht : A 2 = t) (hs : s 0 = nI n) (hn : n ≤ 240) {i : Nat} (h1 : 1 ≤ i) (hi : i ≤ n) (hp : r.1 3 = nI i) : Ev sc (d + 2) m_R_readRock 0 (iniL 4 [.ref 1, .ref (wL (!w))]) [] (DR w s l A B r) none (DR w s l A B (rkR t n r i)) := by
  have key : ∀ r1 : RS, r1.1 3 = nI i → r1.1 19 = r.1 19 → r1.1 20 = r.1 20 → Ev sc (d + 2) m_R_readRock 23 (iniL 4 [.ref 1, .ref (wL (!w))]) [] (DR w s l A B r1) none (DR w s l A B (let r2 := nmR t n r1 i 0 (r.1 19 - 1); let r3 := nmR t n r2 (nE t n i) 0 (r.1 20 - 1); if r3.1 1 = 0 then adR r3 ((1 : Int64) <<< ((r.1 19 * nV t n (nE t n i) + nV t n i).toInt64 &&& 63)) else r3)) := by
    intro r1 hp1 h19 h20
    have he := nE_b t hi
    repeat (first | refine ev_gos 99 rfl ?_ | refine ev_gf2 rfl rfl rfl rfl ?_ | refine ev_gf2 rfl rfl HH_land rfl ?_ | refine ev_gf2 rfl rfl HH_draft rfl ?_ | refine ev_gf2 rfl rfl (by with_reducible assumption) rfl ?_)
    refine ev_cv rfl rfl rfl (e_readNumber ht hs hn hi hp1 0 (r1.1 19 - 1)) ?_
    repeat (first | refine ev_gos 99 rfl ?_ | refine ev_gf2 rfl rfl rfl rfl ?_ | refine ev_gf2 rfl rfl HH_land rfl ?_ | refine ev_gf2 rfl rfl HH_draft rfl ?_ | refine ev_gf2 rfl rfl (by with_reducible assumption) rfl ?_)
    refine ev_cv rfl rfl rfl (e_readNumber ht hs hn (i := nE t n i) he.2 (nm_pl _ _ _ _ _ _) 0 ((nmR t n r1 i 0 (r1.1 19 - 1)).1 20 - 1)) ?_
    have e20 : (nmR t n r1 i 0 (r1.1 19 - 1)).1 20 = r.1 20 := by rw [nm_q _ _ _ _ _ _ (by decide) (by decide) (by decide) (by decide), h20]
    repeat (first | refine ev_gos 99 rfl ?_ | refine ev_gf2 rfl rfl rfl rfl ?_ | refine ev_gf2 rfl rfl HH_land rfl ?_ | refine ev_gf2 rfl rfl HH_draft rfl ?_ | refine ev_gf2 rfl rfl (by with_reducible assumption) rfl ?_)
    dsimp only
    rw [e20, h19]
    by_cases h0 : (nmR t n (nmR t n r1 i 0 (r.1 19 - 1)) (nE t n i) 0 (r.1 20 - 1)).1 1 = 0
    · rw [if_pos h0]
      refine ev_iff rfl rfl rfl (j_ne h0) ?_
      obtain ⟨o1, o2⟩ := nm_ok h0
      rw [nv_0 o1, nv_0 h0]
      repeat (first | refine ev_gos 99 rfl ?_ | refine ev_gf2 rfl rfl rfl rfl ?_ | refine ev_gf2 rfl rfl HH_land rfl ?_ | refine ev_gf2 rfl rfl HH_draft rfl ?_ | refine ev_gf2 rfl rfl (by with_reducible assumption) rfl ?_)
      refine ev_cv rfl rfl rfl (e_addRock _) ?_
      refine ev_rv rfl ?_
      show DR w s l A B (adR _ ((1 : Int64) <<< (((nmR t n (nmR t n r1 i 0 (r.1 19 - 1)) (nE t n i) 0 (r.1 20 - 1)).1 19 * nV t n (nE t n i) + nV t n i).toInt64 &&& 63))) = _
      rw [nm_q _ _ _ _ _ _ (by decide) (by decide) (by decide) (by decide), nm_q _ _ _ _ _ _ (by decide) (by decide) (by decide) (by decide), h19]
    · rw [if_neg h0]
      refine ev_ift rfl rfl rfl (i_ne h0) ?_
      exact ev_rv rfl rfl
  unfold rkR
  repeat (first | refine ev_gos 99 rfl ?_ | refine ev_gf2 rfl rfl rfl rfl ?_ | refine ev_gf2 rfl rfl HH_land rfl ?_ | refine ev_gf2 rfl rfl HH_draft rfl ?_ | refine ev_gf2 rfl rfl (by with_reducible assumption) rfl ?_)
  refine ev_cs rfl rfl rfl (e_bitCountL sc _ _ _) ?_
  repeat (first | refine ev_gos 99 rfl ?_ | refine ev_gf2 rfl rfl rfl rfl ?_ | refine ev_gf2 rfl rfl HH_land rfl ?_ | refine ev_gf2 rfl rfl HH_draft rfl ?_ | refine ev_gf2 rfl rfl (by with_reducible assumption) rfl ?_)
  have hpo := pop_le (r.2.1 7)
  by_cases h0 : pop (r.2.1 7) < 8
  · rw [if_pos h0]
    refine ev_ift rfl rfl rfl (c_lt ((nI_ltI (a := pop (r.2.1 7)) (b := 8) (by omega) (by decide)).mpr h0)) ?_
    exact key r hp rfl rfl
  · rw [if_neg h0]
    refine ev_iff rfl rfl rfl (d_lt (fun z => h0 ((nI_ltI (a := pop (r.2.1 7)) (b := 8) (by omega) (by decide)).mp z))) ?_
    repeat (first | refine ev_gos 99 rfl ?_ | refine ev_gf2 rfl rfl rfl rfl ?_ | refine ev_gf2 rfl rfl HH_land rfl ?_ | refine ev_gf2 rfl rfl HH_draft rfl ?_ | refine ev_gf2 rfl rfl (by with_reducible assumption) rfl ?_)
    refine ev_cv rfl rfl rfl (e_complain 3 (r.1 3 - 1)) ?_
    have e : r.1 3 - 1 = nI (i - 1) := by rw [hp, show (1 : Int32) = nI 1 from rfl, pk_sub h1]
    rw [e]
    exact key (cmR r 3 (nI (i - 1))) (by rw [(cm_facts _ _ _).2.2.1 3 (by decide) (by decide)]; exact hp) ((cm_facts _ _ _).2.2.1 19 (by decide) (by decide)) ((cm_facts _ _ _).2.2.1 20 (by decide) (by decide))
end CLS
